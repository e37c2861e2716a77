/-! ===== the condition of an instruction holds on the machine ===== -/
def xlen : Instr → Nat
  | .aload _ | .iload _ | .lload _ | .istore _ | .lstore _ | .astore _ | .bipush _ | .ldc _ => 2
  | .sipush _ | .iinc _ _ | .ldc_w _ | .ldc2_w _ | .getfield _ | .putfield _ | .getstatic _ | .goto _ | .ifCond _ _ | .if_icmp _ _ | .invokevirtual _ | .invokestatic _ => 3
  | _ => 1
def xlok (i : Instr) (len : Nat) : Bool := match i with
  | .tableswitch _ _ _ _ => true
  | .lookupswitch _ _ => true
  | i => Nat.beq (xlen i) len
def xTok (cc : ByteArray) (tb : XT) : Prop := ∀ pc i len, tb pc = some (i, len) → decode cc pc = .ok (i, len) ∧ xlok i len = true
def xFok (own : String) (fl : XF) : Prop := ∀ n ci f ty fin, fl n = some (ci, f, ty, fin) → ∃ (C : String) (T : u_T) (N : Nat) (ty0 : Nat → FieldType), vwCl[ci]? = some (C, T, N) ∧ f < N ∧ (∀ w ∈ u_ws C T N, w ∈ lw_g) ∧ Cond.fieldLink own n (T f).1 (T f).2.1 (T f).2.2.1 ∈ lw_g ∧ (T f).2.2.2 = fin ∧ parseFieldDescriptor (T f).2.2.1 = some ty ∧ (∀ k, k < N → parseFieldDescriptor (T k).2.2.1 = some (ty0 k)) ∧ (∀ a, a < N → ∀ b, b < N → a ≠ b → (T a).2.1 ≠ (T b).2.1)
def xKok (own : String) (kc : XK) : Prop := ∀ n, (∀ x, kc n = some (.int x) → Cond.constant own n x ∈ lw_g) ∧ (∀ x, kc n = some (.long x) → Cond.constantLong own n x ∈ lw_g) ∧ (∀ q, kc n = some (.retAddr q) → ∃ tx, (own, n, tx, q) ∈ xsr)
def xGok (own : String) (gs : XH) : Prop := (∀ n v, gs 0 n = some v → ∃ q ∈ xsg, q.2.2.2 = v ∧ xnr v = true ∧ (Cond.fieldLink own n q.1 q.2.1 q.2.2.1 ∈ lw_g ∨ Cond.fieldLinkNest own n q.1 q.2.1 q.2.2.1 "RingChoir" = xnw)) ∧ (∀ c n v, gs (c + 1) n = some v → ∃ q ∈ xsf, q.1 = c ∧ q.2.2.2.2 = v ∧ xnr v = true ∧ Cond.fieldLink own n q.2.1 q.2.2.1 q.2.2.2.1 ∈ lw_g)
def xCtx (p : Program) (R : Room) (s : State) (m : MethodId) (args : Array Value) (c : Code) (cc : ByteArray) (nL : Nat) (own : String) (D : va_G) (z : XZ) (L : Nat) (xs : Nat → Int32) (A : Nat → Prop) (cs sl : Nat) : Prop :=
  p.tables.exec = Jvm.exec ∧ c.code = cc ∧ c.maxLocals = nL ∧ s.vm.findClass own = some m.cls ∧ (∀ w ∈ lw_g, w.before args s = true) ∧ va_K D vwCl (xt z) s ∧ (∀ q, s.heap.size ≤ q → A q) ∧ xC z L xs A s ∧ cs ≤ R.cells ∧ sl ≤ R.slots
def xOK (p : Program) (l : Launch) (e : Env) (R : Room) (s : State) (m : MethodId) (args : Array Value) (below : List Frame) (meth : Method) (c : Code) (nL : Nat) (D : va_G) (z : XZ) (A : Nat → Prop) (cs sl : Nat) (Q : State → Prop) (pc : Nat) (ls : XL) (st : List Value) (w : XW) : Prop :=
  ∀ (H : Heap) (locs : List Loc) (la : Array Slot), va_P D vwCl (xq z w) H → va_D A (xq z w) → va_S A s.heap H locs → lv_has la nL (ls.map (fun q => (q.1, xz z q.2))) → W p l e R s m args below meth c H locs cs sl Q (F0 m pc la (st.map (xz z)))
def xCall (own : String) (R : Room) (n : Nat) (v : Bool) (cnt : Nat) (S : XS) : Prop :=
  ∀ (p : Program) (l : Launch) (e : Env) (s : State) (m : MethodId) (args : Array Value) (below : List Frame) (meth : Method) (c : Code) (cc : ByteArray) (nL : Nat) (D : va_G) (z : XZ) (L : Nat) (xs : Nat → Int32) (A : Nat → Prop) (cs sl : Nat) (Q : State → Prop), xCtx p R s m args c cc nL own D z L xs A cs sl →
    ∀ (as rest : List Value) (w : XW) (post : Option Value → XW → Prop) (pc : Nat) (ls : XL), as.length = cnt → xsum rest ≤ 8 → S as w post → decode cc pc = .ok (bif v then .invokevirtual n else .invokestatic n, 3) →
      (∀ r w', post r w' → xOK p l e R s m args below meth c nL D z A cs sl Q (pc + 3) ls (r.toList ++ rest) w') → xOK p l e R s m args below meth c nL D z A cs sl Q pc ls (as.reverse ++ rest) w
theorem xI_s {st : List Value} {f : Int32 → List Value → Prop} (h : xI st f) : ∃ x r, st = .int x :: r ∧ f x r := by
  unfold xI at h
  split at h
  · exact ⟨_, _, rfl, h⟩
  · exact h.elim
theorem xII_s {st : List Value} {f : Int32 → Int32 → List Value → Prop} (h : xII st f) : ∃ x y r, st = .int y :: .int x :: r ∧ f x y r := by
  unfold xII at h
  split at h
  · exact ⟨_, _, _, rfl, h⟩
  · exact h.elim
theorem xJ_s {st : List Value} {f : Int64 → List Value → Prop} (h : xJ st f) : ∃ x r, st = .long x :: r ∧ f x r := by
  unfold xJ at h
  split at h
  · exact ⟨_, _, rfl, h⟩
  · exact h.elim
theorem xJJ_s {st : List Value} {f : Int64 → Int64 → List Value → Prop} (h : xJJ st f) : ∃ x y r, st = .long y :: .long x :: r ∧ f x y r := by
  unfold xJJ at h
  split at h
  · exact ⟨_, _, _, rfl, h⟩
  · exact h.elim
theorem xJI_s {st : List Value} {f : Int64 → Int32 → List Value → Prop} (h : xJI st f) : ∃ x y r, st = .int y :: .long x :: r ∧ f x y r := by
  unfold xJI at h
  split at h
  · exact ⟨_, _, _, rfl, h⟩
  · exact h.elim
theorem xjmp_s {pc : Nat} {o : Int} {f : Nat → Prop} (h : xjmp pc o f) : ∃ t : Nat, (pc : Int) + o = (t : Int) ∧ f t := by
  unfold xjmp at h
  split at h
  · next t e => exact ⟨t, e, h⟩
  · exact h.elim
theorem xldI_s {ls : XL} {i : Nat} {f : Int32 → Prop} (h : xldI ls i f) : ∃ x, xget ls i = some (.int x) ∧ f x := by
  unfold xldI at h
  split at h
  · next x e => exact ⟨x, e, h⟩
  · exact h.elim
theorem xldJ_s {ls : XL} {i : Nat} {f : Int64 → Prop} (h : xldJ ls i f) : ∃ x, xget ls i = some (.long x) ∧ f x := by
  unfold xldJ at h
  split at h
  · next x e => exact ⟨x, e, h⟩
  · exact h.elim
theorem xldA_s {z : XZ} {ls : XL} {i : Nat} {f : Value → Prop} (h : xldA ls i f) : ∃ v a, xget ls i = some v ∧ xz z v = .ref a ∧ f v := by
  unfold xldA at h
  split at h
  · next x e => exact ⟨_, _, e, rfl, h⟩
  · next x e => exact ⟨_, _, e, rfl, h⟩
  · exact h.elim
theorem xlt_s {i n : Nat} {P : Prop} (h : xlt i n P) : i < n ∧ P := by
  unfold xlt at h
  split at h
  · next e => exact ⟨Nat.le_of_ble_eq_true e, h⟩
  · exact h.elim
theorem xsum_s (z : XZ) (st : List Value) : ((st.map (xz z)).map fun v => v.category).sum = xsum st := by
  induction st with
  | nil => rfl
  | cons v r ih =>
    have e : (xz z v).category = (bif xlong v then 2 else 1) := by cases v <;> rfl
    simp only [List.map_cons, List.sum_cons, xsum, ih, e]
theorem xpop_s : ∀ (n : Nat) (acc st as rest : List Value), xpop n acc st = some (as, rest) → as.reverse ++ rest = acc.reverse ++ st ∧ as.length = acc.length + n
  | 0, acc, st, as, rest, h => by
    cases h
    exact ⟨rfl, rfl⟩
  | n + 1, acc, [], as, rest, h => by cases h
  | n + 1, acc, v :: r, as, rest, h => by
    obtain ⟨h1, h2⟩ := xpop_s n (v :: acc) r as rest h
    refine ⟨by rw [h1]; simp, by rw [h2]; simp; omega⟩
theorem xtab_s {pc : Nat} {x : Int32} {f : Nat → Prop} : ∀ (l : List Int) (v : Int) (j : Nat) (o : Int), xtab pc x f v l → l[j]? = some o → x.toInt = v + j → xjmp pc o f
  | [], _, _, _, _, hj, _ => by cases hj
  | a :: r, v, 0, o, h, hj, hx => by
    cases hj
    exact h.1 (by rw [hx]; simp)
  | a :: r, v, j + 1, o, h, hj, hx => xtab_s r (v + 1) j o h.2 hj (by rw [hx]; push_cast; omega)
theorem xlook_s {pc : Nat} {x : Int32} {f : Nat → Prop} {d : Int} : ∀ (l : List (Int × Int)), xlook pc x f d l → xjmp pc (Op.lookupswitch.offset l d x.toInt) f
  | [], h => h
  | (a, o) :: r, h => by
    rw [Op.lookupswitch.offset_cons]
    split
    · next e => exact h.1 e.symm
    · next e => exact xlook_s r (h.2 (fun q => e q.symm))

theorem xcat1 {v : Value} (h : xlong v = false) : v.category = 1 := by cases v <;> first | rfl | cases h
theorem xfit_s {z : XZ} {ty : FieldType} {v : Value} {P : Prop} (h : xfit ty v P) : narrow ty (xz z v) = xz z v ∧ fits ty (xz z v) = true ∧ P := by
  unfold xfit at h
  split at h
  · exact ⟨rfl, rfl, h⟩
  · obtain ⟨h1, h⟩ := h
    rcases h1 with rfl | rfl
    · exact ⟨rfl, rfl, h⟩
    · exact ⟨rfl, rfl, h⟩
  · exact ⟨rfl, rfl, h⟩
  · exact ⟨rfl, rfl, h⟩
  · exact ⟨rfl, rfl, h⟩
  · exact ⟨rfl, rfl, h⟩
  · exact h.elim
section XALD
variable {p : Program} {l : Launch} {e : Env} {R : Room} {s : State} {m : MethodId} {args : Array Value} {below : List Frame} {meth : Method} {c : Code} {H : Heap} {locs : List Loc} {cells slots : Nat} {Q : State → Prop}
variable {cc : ByteArray} {pc : Nat} {ls : Array Slot} {rest : List Value} {D : va_G} {cl : List vw_C} {A : Nat → Prop} {a : Nat} {tys : List (ClassId × FieldType)} {ws : va_W} {H0 : Heap}
theorem xaald (hexec : p.tables.exec = Jvm.exec) (hb : c.code = cc) (hK : va_K D cl tys s) (hP : va_P D cl ws H) (q0 t0 : Nat) {cA : ClassId} {ty : FieldType} {n : Nat} {f : Nat → Option Nat} (ha : ws[q0]? = some (a, .inl (cA, n, .inr (.inr (.inr (.inr f)))))) (ht : tys[t0]? = some (cA, .array ty)) {i : Int32} (hin : vp_in i n) (hdg : decode cc pc = .ok (.aaload, 1))
    (kk : W p l e R s m args below meth c H locs cells slots Q (F0 m (pc + 1) ls (va_rf (f i.toNatClampNeg) :: rest))) : W p l e R s m args below meth c H locs cells slots Q (F0 m pc ls (.int i :: .ref a :: rest)) := by
  have hlt : i.toNatClampNeg < n := Nat.not_le.mp fun q => hin (Or.inr q)
  exact W.aald (v := va_rf (f i.toNatClampNeg)) (ty := .array ty) hexec hb (hP q0 _ ha) ((hK.2 t0 _ ht).1 n (fun j => va_rf (f j))) rfl (fun q => by cases q) (by show ¬ (i < 0 ∨ (arrV _ _ _).slots.size ≤ _); rw [arrV_size]; exact hin) (by show (arrV _ _ _).slots[_]? = _; rw [arrV_read _ _ hlt]) rfl rfl hdg kk
end XALD
section XSND
variable {p : Program} {l : Launch} {e : Env} {R : Room} {s : State} {m : MethodId} {args : Array Value} {below : List Frame} {meth : Method} {c : Code} {cc : ByteArray} {nL : Nat} {own : String} {D : va_G} {z : XZ} {L : Nat} {xs : Nat → Int32} {A : Nat → Prop} {cs sl : Nat} {Q : State → Prop}
variable {tb : XT} {fl : XF} {kc : XK} {gs : XH} {cl : XG} {rt : Option FieldType} {Qp : Option Value → XW → Prop} {k : Nat → XL → List Value → XW → Prop}
set_option maxHeartbeats 4000000 in
theorem xstep_ok (X : xCtx p R s m args c cc nL own D z L xs A cs sl) (hT : xTok cc tb) (hF : xFok own fl) (hKc : xKok own kc) (hG : xGok own gs) (hC : ∀ n v cnt S, cl n = some (v, cnt, S) → xCall own R n v cnt S)
    (hri : ∀ pc ls x w, decode cc pc = .ok (.ireturn, 1) → xret rt x (Qp (some (.int x)) w) → xOK p l e R s m args below meth c nL D z A cs sl Q pc ls [.int x] w)
    (hrl : ∀ pc ls x w, decode cc pc = .ok (.lreturn, 1) → rt = some .long → Qp (some (.long x)) w → xOK p l e R s m args below meth c nL D z A cs sl Q pc ls [.long x] w)
    (hrv : ∀ pc ls w, decode cc pc = .ok (.return_, 1) → rt = none → Qp none w → xOK p l e R s m args below meth c nL D z A cs sl Q pc ls [] w)
    (hk : ∀ pc ls st w, k pc ls st w → xOK p l e R s m args below meth c nL D z A cs sl Q pc ls st w) (pc : Nat) (ls : XL) (st : List Value) (w : XW) (h : xstep nL rt L xs tb fl kc gs cl Qp k pc ls st w) : xOK p l e R s m args below meth c nL D z A cs sl Q pc ls st w := by
  obtain ⟨hx, hb, hml, hown, hts, hK, hA, hCn, hcs, hsl⟩ := id X
  unfold xstep at h
  cases ht : tb pc with
  | none =>
    rw [ht] at h
    exact h.elim
  | some il =>
    obtain ⟨i, len⟩ := il
    rw [ht] at h
    obtain ⟨hd, hl⟩ := hT pc i len ht
    clear ht
    cases i <;> first | (exact False.elim h) | skip

    case aload_n n =>
      cases Nat.eq_of_beq_eq_true hl
      obtain ⟨v, a, hg, hz, h⟩ := xldA_s (z := z) h
      intro H locs la hP hD hS hv
      have h2 := hk _ _ _ _ h H locs la hP hD hS hv
      rw [List.map_cons, hz] at h2
      exact lv_aload_n hx hb hd rfl ((xhas_get hv hg).trans (by rw [hz])) h2
    case aload n =>
      cases Nat.eq_of_beq_eq_true hl
      obtain ⟨v, a, hg, hz, h⟩ := xldA_s (z := z) h
      intro H locs la hP hD hS hv
      have h2 := hk _ _ _ _ h H locs la hP hD hS hv
      rw [List.map_cons, hz] at h2
      exact lv_aload hx hb hd ((xhas_get hv hg).trans (by rw [hz])) h2
    case iload_n n =>
      cases Nat.eq_of_beq_eq_true hl
      obtain ⟨x, hg, h⟩ := xldI_s h
      intro H locs la hP hD hS hv
      exact lv_iload_n hx hb hd rfl (xhas_get hv hg) (hk _ _ _ _ h H locs la hP hD hS hv)
    case iload n =>
      cases Nat.eq_of_beq_eq_true hl
      obtain ⟨x, hg, h⟩ := xldI_s h
      intro H locs la hP hD hS hv
      exact lv_iload hx hb hd (xhas_get hv hg) (hk _ _ _ _ h H locs la hP hD hS hv)
    case lload_n n =>
      cases Nat.eq_of_beq_eq_true hl
      obtain ⟨x, hg, h⟩ := xldJ_s h
      intro H locs la hP hD hS hv
      exact lv_lload_n hx hb hd rfl (xhas_get hv hg) (hk _ _ _ _ h H locs la hP hD hS hv)
    case lload n =>
      cases Nat.eq_of_beq_eq_true hl
      obtain ⟨x, hg, h⟩ := xldJ_s h
      intro H locs la hP hD hS hv
      exact lv_lload hx hb hd (xhas_get hv hg) (hk _ _ _ _ h H locs la hP hD hS hv)
    case istore_n n =>
      cases Nat.eq_of_beq_eq_true hl
      obtain ⟨x, r, rfl, h⟩ := xI_s h
      obtain ⟨hn, h⟩ := xlt_s h
      intro H locs la hP hD hS hv
      exact lv_istore_n hx hb hd rfl hv hn rfl (fun la2 hv2 => hk _ _ _ _ h H locs la2 hP hD hS (xhas_put (xhas_set (v := .int x) hv2)))
    case istore n =>
      cases Nat.eq_of_beq_eq_true hl
      obtain ⟨x, r, rfl, h⟩ := xI_s h
      obtain ⟨hn, h⟩ := xlt_s h
      intro H locs la hP hD hS hv
      exact lv_istore hx hb hd hv hn rfl (fun la2 hv2 => hk _ _ _ _ h H locs la2 hP hD hS (xhas_put (xhas_set (v := .int x) hv2)))
    case lstore n =>
      cases Nat.eq_of_beq_eq_true hl
      obtain ⟨x, r, rfl, h⟩ := xJ_s h
      obtain ⟨hn, h⟩ := xlt_s h
      intro H locs la hP hD hS hv
      exact lv_lstore hx hb hd hv hn rfl (fun la2 hv2 => hk _ _ _ _ h H locs la2 hP hD hS (xhas_put (xhas_set2 (v := .long x) hv2)))
    case lstore_n n =>
      cases Nat.eq_of_beq_eq_true hl
      obtain ⟨x, r, rfl, h⟩ := xJ_s h
      obtain ⟨hn, h⟩ := xlt_s h
      intro H locs la hP hD hS hv
      exact lv_lstore_n hx hb hd rfl hv hn rfl (fun la2 hv2 => hk _ _ _ _ h H locs la2 hP hD hS (xhas_put (xhas_set2 (v := .long x) hv2)))
    case astore_n n =>
      cases Nat.eq_of_beq_eq_true hl
      dsimp only at h
      split at h
      · next q r =>
        obtain ⟨hn, h⟩ := xlt_s h
        intro H locs la hP hD hS hv
        exact lv_astore_n hx hb hd rfl hv hn rfl (fun la2 hv2 => hk _ _ _ _ h H locs la2 hP hD hS (xhas_put (xhas_set (v := .ref q) hv2)))
      · next q r =>
        obtain ⟨hn, h⟩ := xlt_s h
        intro H locs la hP hD hS hv
        exact lv_astore_n hx hb hd rfl hv hn rfl (fun la2 hv2 => hk _ _ _ _ h H locs la2 hP hD hS (xhas_put (xhas_set (v := .retAddr q) hv2)))
      · exact h.elim
    case astore n =>
      cases Nat.eq_of_beq_eq_true hl
      dsimp only at h
      split at h
      · next q r =>
        obtain ⟨hn, h⟩ := xlt_s h
        intro H locs la hP hD hS hv
        exact lv_astore hx hb hd hv hn rfl (fun la2 hv2 => hk _ _ _ _ h H locs la2 hP hD hS (xhas_put (xhas_set (v := .ref q) hv2)))
      · next q r =>
        obtain ⟨hn, h⟩ := xlt_s h
        intro H locs la hP hD hS hv
        exact lv_astore hx hb hd hv hn rfl (fun la2 hv2 => hk _ _ _ _ h H locs la2 hP hD hS (xhas_put (xhas_set (v := .retAddr q) hv2)))
      · exact h.elim
    case iinc n v =>
      cases Nat.eq_of_beq_eq_true hl
      obtain ⟨x, hg, h⟩ := xldI_s h
      obtain ⟨hn, h⟩ := xlt_s h
      intro H locs la hP hD hS hv
      obtain ⟨j, hj⟩ := List.getElem?_of_mem (List.mem_map.mpr ⟨(n, Value.int x), xget_mem hg, rfl⟩ : (n, xz z (.int x)) ∈ ls.map (fun q => (q.1, xz z q.2)))
      exact lv_iinc hx hb hd hv hj rfl hn rfl (fun la2 hv2 => hk _ _ _ _ h H locs la2 hP hD hS (xhas_put (xhas_set (v := .int (x + Int32.ofInt v)) hv2)))
    case iconst n =>
      cases Nat.eq_of_beq_eq_true hl
      intro H locs la hP hD hS hv
      exact lv_iconst hx hb hd rfl (hk _ _ _ _ h H locs la hP hD hS hv)
    case bipush n =>
      cases Nat.eq_of_beq_eq_true hl
      intro H locs la hP hD hS hv
      exact lv_bipush hx hb hd rfl (hk _ _ _ _ h H locs la hP hD hS hv)
    case sipush n =>
      cases Nat.eq_of_beq_eq_true hl
      intro H locs la hP hD hS hv
      exact lv_sipush hx hb hd rfl (hk _ _ _ _ h H locs la hP hD hS hv)
    case lconst n =>
      cases Nat.eq_of_beq_eq_true hl
      intro H locs la hP hD hS hv
      exact lv_lconst hx hb hd rfl (hk _ _ _ _ h H locs la hP hD hS hv)
    case ldc n =>
      cases Nat.eq_of_beq_eq_true hl
      dsimp only at h
      split at h
      · next x ek =>
        intro H locs la hP hD hS hv
        exact lv_ldc hx hb hown (hts _ ((hKc n).1 _ ek)) hd (hk _ _ _ _ h H locs la hP hD hS hv)
      · next x ek =>
        obtain ⟨tx, hx9⟩ := (hKc n).2.2 _ ek
        intro H locs la hP hD hS hv
        exact va_ldcS hx hb hown (hCn.2.2.2.2.2.1 _ hx9) hd (hk _ _ _ _ h H locs la hP hD hS hv)
      · exact h.elim
    case ldc_w n =>
      cases Nat.eq_of_beq_eq_true hl
      dsimp only at h
      split at h
      · next x ek =>
        intro H locs la hP hD hS hv
        exact lv_ldcw hx hb hown (hts _ ((hKc n).1 _ ek)) hd (hk _ _ _ _ h H locs la hP hD hS hv)
      
      
      
      
      · exact h.elim
    case ldc2_w n =>
      cases Nat.eq_of_beq_eq_true hl
      dsimp only at h
      split at h
      · next x ek =>
        intro H locs la hP hD hS hv
        exact lv_ldc2 hx hb hown (hts _ ((hKc n).2.1 _ ek)) hd (hk _ _ _ _ h H locs la hP hD hS hv)
      
      
      
      
      · exact h.elim
    case getfield n =>
      cases Nat.eq_of_beq_eq_true hl
      dsimp only at h
      split at h
      · next q r ci f ty fin ef =>
        split at h
        · next ci2 fs ew =>
          split at h
          · next v e1 e2 =>
            obtain ⟨C, T, N, ty0, hc, hf, hin, hlk, -⟩ := hF n ci f ty fin ef
            cases Nat.eq_of_beq_eq_true e1
            intro H locs la hP hD hS hv
            exact va_get hx hb hts hin hown hK hP q (xq_at ew) hc f hf (hts _ hlk) (fun _ h9 => h9) (show (fs.map (xz z))[f]? = some (xz z v) by rw [List.getElem?_map, e2]; rfl) hd (hk _ _ _ _ h H locs la hP hD hS hv)
          · exact h.elim
        · exact h.elim
      · next q r =>
        split at h
        · next v eg =>
          obtain ⟨e9, he9, rfl, rfl, hnr, hlk⟩ := hG.2 q n v eg
          intro H locs la hP hD hS hv
          have h2 := hk _ _ _ _ h H locs la hP hD hS hv
          rw [List.map_cons, ← xz0_z hnr] at h2
          exact vk_getf hx hb (hCn.2.2.2.1 e9 he9) hS hown (hts _ hlk) (fun _ h9 => h9) hd h2
        · exact h.elim
      · exact h.elim
    case putfield n =>
      cases Nat.eq_of_beq_eq_true hl
      dsimp only at h
      split at h
      · next v q r ci f ty ef =>
        split at h
        · next ci2 fs ew =>
          split at h
          · next e1 e2 =>
            obtain ⟨C, T, N, ty0, hc, hf, hin, hlk, hfin, hpd, hty0, hnm⟩ := hF n ci f ty false ef
            cases Nat.eq_of_beq_eq_true e1
            obtain ⟨f1, f2, h⟩ := xfit_s (z := z) h
            intro H locs la hP hD hS hv
            refine va_put hx hb hts hin ty0 hty0 hnm hown hK hP hD hS q (xq_at ew) hc f hf (hts _ hlk) (fun _ h9 => h9) hfin hpd f1 f2 (by rw [List.length_map]; exact Nat.le_of_ble_eq_true e2) hd (fun H1 locs1 hP1 hD1 hS1 => ?_)
            have e3 : (xq z w).set q (z.1 q, .inr (ci, (fs.map (xz z)).set f (xz z v))) = xq z (w.set q (.inr (ci, fs.set f v))) := by
              rw [← xq_set, ← List.map_set]
              rfl
            rw [e3] at hP1 hD1
            exact hk _ _ _ _ h H1 locs1 la hP1 hD1 hS1 hv
          · exact h.elim
        · exact h.elim
      · exact h.elim
    case getstatic n =>
      cases Nat.eq_of_beq_eq_true hl
      dsimp only at h
      split at h
      · next v eg =>
        obtain ⟨q, hq, rfl, hnr, hlk⟩ := hG.1 n v eg
        intro H locs la hP hD hS hv
        have h2 := hk _ _ _ _ h H locs la hP hD hS hv
        rw [List.map_cons, ← xz0_z hnr] at h2
        rcases hlk with hlk | hlk
        · exact va_gets hx hb (hCn.2.2.1 q hq) hS hown (hts _ hlk) (fun _ h9 => h9) hd h2
        · exact va_getsN (host := "RingChoir") hx hb (hCn.2.2.1 q hq) hS hown (by rw [hlk]; exact va_Nw.use rfl hCn.2.2.2.2.2.2) (fun _ h9 => h9) hd h2
      · exact h.elim
    case iaload =>
      cases Nat.eq_of_beq_eq_true hl
      dsimp only at h
      split at h
      · next i q r =>
        split at h
        · next n f ew =>
          obtain ⟨hi, h⟩ := h
          intro H locs la hP hD hS hv
          exact va_iald hx hb hK hP q 0 (xq_at ew) rfl hi hd (hk _ _ _ _ h H locs la hP hD hS hv)
        · exact h.elim
      · next i q r =>
        split at h
        · next e1 =>
          obtain ⟨hi, h⟩ := h
          intro H locs la hP hD hS hv
          exact va_ti hx hb (hCn.1 q (Nat.le_of_ble_eq_true e1)) hS hi rfl hd (hk _ _ _ _ h H locs la hP hD hS hv)
        · exact h.elim
      · exact h.elim
    case baload =>
      cases Nat.eq_of_beq_eq_true hl
      dsimp only at h
      split at h
      · next i q r =>
        split at h
        · next n f ew =>
          obtain ⟨hi, h⟩ := h
          intro H locs la hP hD hS hv
          exact va_bald hx hb hK hP q 1 (xq_at ew) rfl hi hd (hk _ _ _ _ h H locs la hP hD hS hv)
        · exact h.elim
      · next i q r =>
        split at h
        · next e1 e2 =>
          obtain ⟨hi, h⟩ := h
          intro H locs la hP hD hS hv
          exact va_tb hx hb (hCn.2.1 q (Nat.le_of_ble_eq_true e1) (Nat.le_of_ble_eq_true e2)) hS hi rfl hd (hk _ _ _ _ h H locs la hP hD hS hv)
        · exact h.elim
      · exact h.elim
    case iastore =>
      cases Nat.eq_of_beq_eq_true hl
      dsimp only at h
      split at h
      · next x i q r =>
        split at h
        · next n f ew =>
          obtain ⟨hi, h⟩ := h
          intro H locs la hP hD hS hv
          refine va_iast hx hb hK hP hD hS q 0 (xq_at ew) rfl hi hd (fun H1 locs1 hP1 hD1 hS1 => ?_)
          have e3 : (xq z w).set q (z.1 q, .inl (z.2.2 0, n, .inl (upd f i.toNatClampNeg x))) = xq z (w.set q (.inl (0, n, .inl (upd f i.toNatClampNeg x)))) := by
            rw [← xq_set]
            rfl
          rw [e3] at hP1 hD1
          exact hk _ _ _ _ h H1 locs1 la hP1 hD1 hS1 hv
        · exact h.elim
      · exact h.elim
    case bastore =>
      cases Nat.eq_of_beq_eq_true hl
      dsimp only at h
      split at h
      · next x i q r =>
        split at h
        · next n f ew =>
          obtain ⟨hi, h⟩ := h
          intro H locs la hP hD hS hv
          refine va_bast hx hb hK hP hD hS q 1 (xq_at ew) rfl hi hd (fun H1 locs1 hP1 hD1 hS1 => ?_)
          have e3 : (xq z w).set q (z.1 q, .inl (z.2.2 1, n, .inl (upd f i.toNatClampNeg (vp_nar .byte x)))) = xq z (w.set q (.inl (1, n, .inl (upd f i.toNatClampNeg (vp_nar .byte x))))) := by
            rw [← xq_set]
            rfl
          rw [e3] at hP1 hD1
          exact hk _ _ _ _ h H1 locs1 la hP1 hD1 hS1 hv
        · exact h.elim
      · exact h.elim
    case aaload =>
      cases Nat.eq_of_beq_eq_true hl
      dsimp only at h
      split at h
      · next i q r =>
        split at h
        · next n g ew =>
          obtain ⟨hi, a, ha, h⟩ := h
          intro H locs la hP hD hS hv
          refine xaald hx hb hK hP q 2 (xq_at ew) rfl hi hd ?_
          have h2 := hk _ _ _ _ h H locs la hP hD hS hv
          show W p l e R s m args below meth c H locs cs sl Q (F0 m (pc + 1) la (va_rf ((g i.toNatClampNeg).map z.1) :: r.map (xz z)))
          rw [ha]
          exact h2
        · exact h.elim
      · exact h.elim
    case arraylength =>
      cases Nat.eq_of_beq_eq_true hl
      dsimp only at h
      split at h
      · next q r =>
        split at h
        · next n f ew =>
          intro H locs la hP hD hS hv
          exact va_alen hx hb hK hP q 0 (xq_at ew) rfl rfl hd (hk _ _ _ _ h H locs la hP hD hS hv)
        · exact h.elim
      · next q r =>
        split at h
        · next e1 =>
          intro H locs la hP hD hS hv
          exact va_tlen hx hb (hCn.1 q (Nat.le_of_ble_eq_true e1)) hS rfl hd (hk _ _ _ _ h H locs la hP hD hS hv)
        · next e1 e2 =>
          rw [Bool.and_eq_true] at e2
          intro H locs la hP hD hS hv
          exact va_tlen hx hb (hCn.2.1 q (Nat.le_of_ble_eq_true e2.1) (Nat.le_of_ble_eq_true e2.2)) hS rfl hd (hk _ _ _ _ h H locs la hP hD hS hv)
        · exact h.elim
      · exact h.elim
    case iadd =>
      cases Nat.eq_of_beq_eq_true hl
      obtain ⟨x, y, r, rfl, h⟩ := xII_s h
      intro H locs la hP hD hS hv
      exact lv_iadd hx hb hd (hk _ _ _ _ h H locs la hP hD hS hv)
    case isub =>
      cases Nat.eq_of_beq_eq_true hl
      obtain ⟨x, y, r, rfl, h⟩ := xII_s h
      intro H locs la hP hD hS hv
      exact lv_isub hx hb hd (hk _ _ _ _ h H locs la hP hD hS hv)
    case imul =>
      cases Nat.eq_of_beq_eq_true hl
      obtain ⟨x, y, r, rfl, h⟩ := xII_s h
      intro H locs la hP hD hS hv
      exact lv_imul hx hb hd (hk _ _ _ _ h H locs la hP hD hS hv)
    case iand =>
      cases Nat.eq_of_beq_eq_true hl
      obtain ⟨x, y, r, rfl, h⟩ := xII_s h
      intro H locs la hP hD hS hv
      exact lv_iand hx hb hd (hk _ _ _ _ h H locs la hP hD hS hv)
    case ior =>
      cases Nat.eq_of_beq_eq_true hl
      obtain ⟨x, y, r, rfl, h⟩ := xII_s h
      intro H locs la hP hD hS hv
      exact lv_ior hx hb hd (hk _ _ _ _ h H locs la hP hD hS hv)
    case ixor =>
      cases Nat.eq_of_beq_eq_true hl
      obtain ⟨x, y, r, rfl, h⟩ := xII_s h
      intro H locs la hP hD hS hv
      exact lv_ixor hx hb hd (hk _ _ _ _ h H locs la hP hD hS hv)
    case ishl =>
      cases Nat.eq_of_beq_eq_true hl
      obtain ⟨x, y, r, rfl, h⟩ := xII_s h
      intro H locs la hP hD hS hv
      exact lv_ishl hx hb hd (hk _ _ _ _ h H locs la hP hD hS hv)
    case ishr =>
      cases Nat.eq_of_beq_eq_true hl
      obtain ⟨x, y, r, rfl, h⟩ := xII_s h
      intro H locs la hP hD hS hv
      exact lv_ishr hx hb hd (hk _ _ _ _ h H locs la hP hD hS hv)
    case idiv =>
      cases Nat.eq_of_beq_eq_true hl
      obtain ⟨x, y, r, rfl, hne, h⟩ := xII_s h
      intro H locs la hP hD hS hv
      exact lv_idiv hx hb hd hne (hk _ _ _ _ h H locs la hP hD hS hv)
    case irem =>
      cases Nat.eq_of_beq_eq_true hl
      obtain ⟨x, y, r, rfl, hne, h⟩ := xII_s h
      intro H locs la hP hD hS hv
      exact lv_irem hx hb hd hne (hk _ _ _ _ h H locs la hP hD hS hv)
    case iushr =>
      cases Nat.eq_of_beq_eq_true hl
      obtain ⟨x, y, r, rfl, h⟩ := xII_s h
      intro H locs la hP hD hS hv
      exact lv_iushr hx hb hd rfl (hk _ _ _ _ h H locs la hP hD hS hv)
    case ineg =>
      cases Nat.eq_of_beq_eq_true hl
      obtain ⟨x, r, rfl, h⟩ := xI_s h
      intro H locs la hP hD hS hv
      exact lv_ineg hx hb hd (hk _ _ _ _ h H locs la hP hD hS hv)
    case ladd =>
      cases Nat.eq_of_beq_eq_true hl
      obtain ⟨x, y, r, rfl, h⟩ := xJJ_s h
      intro H locs la hP hD hS hv
      exact lv_ladd hx hb hd (hk _ _ _ _ h H locs la hP hD hS hv)
    case land =>
      cases Nat.eq_of_beq_eq_true hl
      obtain ⟨x, y, r, rfl, h⟩ := xJJ_s h
      intro H locs la hP hD hS hv
      exact lv_land hx hb hd (hk _ _ _ _ h H locs la hP hD hS hv)
    case lor =>
      cases Nat.eq_of_beq_eq_true hl
      obtain ⟨x, y, r, rfl, h⟩ := xJJ_s h
      intro H locs la hP hD hS hv
      exact lv_lor hx hb hd (hk _ _ _ _ h H locs la hP hD hS hv)
    case lrem =>
      cases Nat.eq_of_beq_eq_true hl
      obtain ⟨x, y, r, rfl, hne, h⟩ := xJJ_s h
      intro H locs la hP hD hS hv
      exact lv_lrem hx hb hd hne (hk _ _ _ _ h H locs la hP hD hS hv)
    case lcmp =>
      cases Nat.eq_of_beq_eq_true hl
      obtain ⟨x, y, r, rfl, h⟩ := xJJ_s h
      intro H locs la hP hD hS hv
      exact W.lcmp hx hb hd (hk _ _ _ _ h H locs la hP hD hS hv)
    case lshl =>
      cases Nat.eq_of_beq_eq_true hl
      obtain ⟨x, y, r, rfl, h⟩ := xJI_s h
      intro H locs la hP hD hS hv
      exact lv_lshl hx hb hd rfl (hk _ _ _ _ h H locs la hP hD hS hv)
    case lshr =>
      cases Nat.eq_of_beq_eq_true hl
      obtain ⟨x, y, r, rfl, h⟩ := xJI_s h
      intro H locs la hP hD hS hv
      exact lv_lshr hx hb hd rfl (hk _ _ _ _ h H locs la hP hD hS hv)
    case lushr =>
      cases Nat.eq_of_beq_eq_true hl
      obtain ⟨x, y, r, rfl, h⟩ := xJI_s h
      intro H locs la hP hD hS hv
      exact lv_lushr hx hb hd rfl (hk _ _ _ _ h H locs la hP hD hS hv)
    case i2l =>
      cases Nat.eq_of_beq_eq_true hl
      obtain ⟨x, r, rfl, h⟩ := xI_s h
      intro H locs la hP hD hS hv
      exact lv_i2l hx hb hd rfl (hk _ _ _ _ h H locs la hP hD hS hv)
    case l2i =>
      cases Nat.eq_of_beq_eq_true hl
      obtain ⟨x, r, rfl, h⟩ := xJ_s h
      intro H locs la hP hD hS hv
      exact lv_l2i hx hb hd rfl (hk _ _ _ _ h H locs la hP hD hS hv)
    case i2b =>
      cases Nat.eq_of_beq_eq_true hl
      obtain ⟨x, r, rfl, h⟩ := xI_s h
      intro H locs la hP hD hS hv
      exact lv_i2b hx hb hd rfl (hk _ _ _ _ h H locs la hP hD hS hv)
    case i2s =>
      cases Nat.eq_of_beq_eq_true hl
      obtain ⟨x, r, rfl, h⟩ := xI_s h
      intro H locs la hP hD hS hv
      exact lv_i2s hx hb hd rfl (hk _ _ _ _ h H locs la hP hD hS hv)
    case i2c =>
      cases Nat.eq_of_beq_eq_true hl
      obtain ⟨x, r, rfl, h⟩ := xI_s h
      intro H locs la hP hD hS hv
      exact lv_i2c hx hb hd rfl (hk _ _ _ _ h H locs la hP hD hS hv)
    case pop =>
      cases Nat.eq_of_beq_eq_true hl
      dsimp only at h
      split at h
      · next v r =>
        split at h
        · next e1 =>
          intro H locs la hP hD hS hv
          exact lv_pop hx hb hd (by rw [xz_cat]; exact xcat1 e1) (hk _ _ _ _ h H locs la hP hD hS hv)
        · exact h.elim
      · exact h.elim
    case dup =>
      cases Nat.eq_of_beq_eq_true hl
      dsimp only at h
      split at h
      · next v r =>
        split at h
        · next e1 =>
          intro H locs la hP hD hS hv
          exact lv_dup hx hb hd (by rw [xz_cat]; exact xcat1 e1) (hk _ _ _ _ h H locs la hP hD hS hv)
        · exact h.elim
      · exact h.elim
    case dup2 =>
      cases Nat.eq_of_beq_eq_true hl
      dsimp only at h
      split at h
      · next v u r =>
        split at h
        · next e1 e2 =>
          intro H locs la hP hD hS hv
          exact lv_dup2_11 hx hb hd (by rw [xz_cat]; exact xcat1 e1) (by rw [xz_cat]; exact xcat1 e2) (hk _ _ _ _ h H locs la hP hD hS hv)
        · exact h.elim
      · exact h.elim
    case goto o =>
      cases Nat.eq_of_beq_eq_true hl
      obtain ⟨t, ht, h⟩ := xjmp_s h
      intro H locs la hP hD hS hv
      exact lv_goto hx hb hd ht (hk _ _ _ _ h H locs la hP hD hS hv)
    case ifCond cd o =>
      cases Nat.eq_of_beq_eq_true hl
      obtain ⟨x, r, rfl, h⟩ := xI_s h
      obtain ⟨t, e1, h1, h2⟩ := xjmp_s h
      intro H locs la hP hD hS hv
      cases cd
      case eq => exact lv_if_eq hx hb hd e1 (fun h9 => hk _ _ _ _ (h1 h9) H locs la hP hD hS hv) (fun h9 => hk _ _ _ _ (h2 h9) H locs la hP hD hS hv)
      case ne => exact lv_if_ne hx hb hd e1 (fun h9 => hk _ _ _ _ (h1 h9) H locs la hP hD hS hv) (fun h9 => hk _ _ _ _ (h2 (fun q => q h9)) H locs la hP hD hS hv)
      case lt => exact lv_if_lt hx hb hd e1 (fun h9 => hk _ _ _ _ (h1 h9) H locs la hP hD hS hv) (fun h9 => hk _ _ _ _ (h2 h9) H locs la hP hD hS hv)
      case ge => exact lv_if_ge hx hb hd e1 (fun h9 => hk _ _ _ _ (h1 h9) H locs la hP hD hS hv) (fun h9 => hk _ _ _ _ (h2 h9) H locs la hP hD hS hv)
      case gt => exact lv_if_gt hx hb hd e1 (fun h9 => hk _ _ _ _ (h1 h9) H locs la hP hD hS hv) (fun h9 => hk _ _ _ _ (h2 h9) H locs la hP hD hS hv)
      case le => exact lv_if_le hx hb hd e1 (fun h9 => hk _ _ _ _ (h1 h9) H locs la hP hD hS hv) (fun h9 => hk _ _ _ _ (h2 h9) H locs la hP hD hS hv)
    case if_icmp cd o =>
      cases Nat.eq_of_beq_eq_true hl
      obtain ⟨x, y, r, rfl, h⟩ := xII_s h
      obtain ⟨t, e1, h1, h2⟩ := xjmp_s h
      intro H locs la hP hD hS hv
      cases cd
      case eq => exact lv_icmp_eq hx hb hd e1 (fun h9 => hk _ _ _ _ (h1 h9) H locs la hP hD hS hv) (fun h9 => hk _ _ _ _ (h2 h9) H locs la hP hD hS hv)
      case ne => exact lv_icmp_ne hx hb hd e1 (fun h9 => hk _ _ _ _ (h1 h9) H locs la hP hD hS hv) (fun h9 => hk _ _ _ _ (h2 (fun q => q h9)) H locs la hP hD hS hv)
      case lt => exact lv_icmp_lt hx hb hd e1 (fun h9 => hk _ _ _ _ (h1 h9) H locs la hP hD hS hv) (fun h9 => hk _ _ _ _ (h2 h9) H locs la hP hD hS hv)
      case ge => exact lv_icmp_ge hx hb hd e1 (fun h9 => hk _ _ _ _ (h1 h9) H locs la hP hD hS hv) (fun h9 => hk _ _ _ _ (h2 h9) H locs la hP hD hS hv)
      case gt => exact lv_icmp_gt hx hb hd e1 (fun h9 => hk _ _ _ _ (h1 h9) H locs la hP hD hS hv) (fun h9 => hk _ _ _ _ (h2 h9) H locs la hP hD hS hv)
      case le => exact lv_icmp_le hx hb hd e1 (fun h9 => hk _ _ _ _ (h1 h9) H locs la hP hD hS hv) (fun h9 => hk _ _ _ _ (h2 h9) H locs la hP hD hS hv)
    case tableswitch d lo hi offs =>
      dsimp only at h
      obtain ⟨x, r, rfl, h⟩ := xI_s h
      split at h
      case h_2 => exact h.elim
      rename_i en
      have en := Nat.eq_of_beq_eq_true en
      obtain ⟨h1, h2⟩ := h
      intro H locs la hP hD hS hv
      by_cases ho : x.toInt < lo ∨ hi < x.toInt
      · obtain ⟨t, e1, h⟩ := xjmp_s (h2 ho)
        exact lv_tableOut hx hb hd ho e1 (hk _ _ _ _ h H locs la hP hD hS hv)
      · have ho1 : ¬ x.toInt < lo := fun q => ho (Or.inl q)
        have ho2 : ¬ hi < x.toInt := fun q => ho (Or.inr q)
        cases hj : offs[(x.toInt - lo).toNat]? with
        | none =>
          rw [← Array.getElem?_toList, List.getElem?_eq_none_iff] at hj
          omega
        | some o =>
          obtain ⟨t, e1, h⟩ := xjmp_s (xtab_s offs.toList lo (x.toInt - lo).toNat o h1 (by rw [Array.getElem?_toList]; exact hj) (by omega))
          exact lv_tableIn hx hb hd ho1 ho2 hj e1 (hk _ _ _ _ h H locs la hP hD hS hv)
    case lookupswitch d ps =>
      dsimp only at h
      obtain ⟨x, r, rfl, h⟩ := xI_s h
      split at h
      · next e1 =>
        obtain ⟨t, e2, h⟩ := xjmp_s (xlook_s _ h)
        intro H locs la hP hD hS hv
        exact lv_lookup hx hb hd e1 rfl e2 (hk _ _ _ _ h H locs la hP hD hS hv)
      · exact h.elim
    case ireturn =>
      cases Nat.eq_of_beq_eq_true hl
      dsimp only at h
      split at h
      · next x => exact hri pc ls x w hd h
      · exact h.elim
    case lreturn =>
      cases Nat.eq_of_beq_eq_true hl
      dsimp only at h
      split at h
      · next x => exact hrl pc ls x w hd rfl h
      · exact h.elim
    case return_ =>
      cases Nat.eq_of_beq_eq_true hl
      dsimp only at h
      split at h
      · exact hrv pc ls w hd rfl h
      · exact h.elim
    case invokevirtual n =>
      cases Nat.eq_of_beq_eq_true hl
      dsimp only at h
      split at h
      · next cnt S ec =>
        split at h
        · next as rest ep =>
          split at h
          · next eb =>
            obtain ⟨e1, e2⟩ := xpop_s cnt [] st as rest ep
            have e3 : as.reverse ++ rest = st := by rw [e1]; rfl
            rw [← e3]
            exact hC n true cnt S ec p l e s m args below meth c cc nL D z L xs A cs sl Q X as rest w _ pc ls (by rw [e2]; simp) (Nat.le_of_ble_eq_true eb) h hd (fun r w' h9 => hk _ _ _ _ h9)
          · exact h.elim
        · exact h.elim
      · exact h.elim
    case invokestatic n =>
      cases Nat.eq_of_beq_eq_true hl
      dsimp only at h
      split at h
      · next cnt S ec =>
        split at h
        · next as rest ep =>
          split at h
          · next eb =>
            obtain ⟨e1, e2⟩ := xpop_s cnt [] st as rest ep
            have e3 : as.reverse ++ rest = st := by rw [e1]; rfl
            rw [← e3]
            exact hC n false cnt S ec p l e s m args below meth c cc nL D z L xs A cs sl Q X as rest w _ pc ls (by rw [e2]; simp) (Nat.le_of_ble_eq_true eb) h hd (fun r w' h9 => hk _ _ _ _ h9)
          · exact h.elim
        · exact h.elim
      · exact h.elim
end XSND
