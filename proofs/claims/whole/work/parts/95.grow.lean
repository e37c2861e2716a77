/-! ===== worlds that grow: what a constructor does ===== -/
abbrev XY : Type := (Nat → Nat) × (Nat → Nat)
def xvb (n : Nat) : Value → Prop
  | .ref k => k < n
  | _ => True
def xeb (n : Nat) : va_E → Prop
  | .inl (_, _, .inr (.inr (.inr (.inr g)))) => ∀ i a, g i = some a → a < n
  | .inl (_, _, .inl _) => True
  | .inl (_, _, .inr (.inl _)) => True
  | .inl (_, _, .inr (.inr (.inl _))) => True
  | .inl (_, _, .inr (.inr (.inr (.inl _)))) => True
  | .inr (_, fs) => ∀ v ∈ fs, xvb n v
def xwb (w : XW) : Prop := ∀ e ∈ w, xeb w.length e
def xsv (n : Nat) : Value → Value
  | .ref k => .ref (n + k)
  | v => v
def xse (n : Nat) : va_E → va_E
  | .inl (t, N, .inr (.inr (.inr (.inr g)))) => .inl (t, N, .inr (.inr (.inr (.inr (fun i => (g i).map (n + ·))))))
  | .inl (t, N, .inl f) => .inl (t, N, .inl f)
  | .inl (t, N, .inr (.inl f)) => .inl (t, N, .inr (.inl f))
  | .inl (t, N, .inr (.inr (.inl f))) => .inl (t, N, .inr (.inr (.inl f)))
  | .inl (t, N, .inr (.inr (.inr (.inl f)))) => .inl (t, N, .inr (.inr (.inr (.inl f))))
  | .inr (ci, fs) => .inr (ci, fs.map (xsv n))
def xzz (z1 z2 : Nat → Nat) (n : Nat) : Nat → Nat := fun k => if k < n then z1 k else z2 (k - n)
theorem xzz_l {z1 z2 : Nat → Nat} {n k : Nat} (h : k < n) : xzz z1 z2 n k = z1 k := if_pos h
theorem xzz_r {z1 z2 : Nat → Nat} {n k : Nat} : xzz z1 z2 n (n + k) = z2 k := by
  unfold xzz
  rw [if_neg (by omega)]
  congr 1
  omega
theorem xvb_up {n N : Nat} (h : n ≤ N) {v : Value} (hv : xvb n v) : xvb N v := by
  cases v <;> first | trivial | exact Nat.lt_of_lt_of_le hv h
theorem xeb_up {n N : Nat} (h : n ≤ N) {e : va_E} (he : xeb n e) : xeb N e := by
  rcases e with ⟨t, M, x⟩ | ⟨ci, fs⟩
  · rcases x with f | f | f | f | g
    · trivial
    · trivial
    · trivial
    · trivial
    · exact fun i a ha => Nat.lt_of_lt_of_le (he i a ha) h
  · exact fun v hv => xvb_up h (he v hv)
theorem xvb_sh {n N : Nat} {v : Value} (hv : xvb N v) : xvb (n + N) (xsv n v) := by
  cases v <;> first | trivial | exact Nat.add_lt_add_left hv n
theorem xeb_sh {n N : Nat} {e : va_E} (he : xeb N e) : xeb (n + N) (xse n e) := by
  rcases e with ⟨t, M, x⟩ | ⟨ci, fs⟩
  · rcases x with f | f | f | f | g
    · trivial
    · trivial
    · trivial
    · trivial
    · intro i a ha
      have ha : (g i).map (n + ·) = some a := ha
      cases hg : g i with
      | none =>
        rw [hg] at ha
        cases ha
      | some b =>
        rw [hg] at ha
        cases ha
        exact Nat.add_lt_add_left (he i b hg) n
  · intro v hv
    obtain ⟨u, hu, rfl⟩ := List.mem_map.mp hv
    exact xvb_sh (he u hu)
theorem xz_cg {t2 : XY} {z1 z1' : Nat → Nat} {n : Nat} (hk : ∀ k, k < n → z1' k = z1 k) {v : Value} (hv : xvb n v) : xz (z1', t2) v = xz (z1, t2) v := by
  cases v <;> first | rfl | exact congrArg Value.ref (hk _ hv)
theorem xe_cg {t2 : XY} {z1 z1' : Nat → Nat} {n : Nat} (hk : ∀ k, k < n → z1' k = z1 k) {e : va_E} (he : xeb n e) : xe (z1', t2) e = xe (z1, t2) e := by
  rcases e with ⟨t, M, x⟩ | ⟨ci, fs⟩
  · rcases x with f | f | f | f | g
    · rfl
    · rfl
    · rfl
    · rfl
    · have e9 : (fun i => (g i).map z1') = fun i => (g i).map z1 := funext fun i => by
        cases hg : g i with
        | none => rfl
        | some b => exact congrArg some (hk b (he i b hg))
      show Sum.inl (t2.2 t, M, _) = Sum.inl (t2.2 t, M, _)
      rw [e9]
  · show Sum.inr (ci, fs.map (xz (z1', t2))) = Sum.inr (ci, fs.map (xz (z1, t2)))
    rw [List.map_congr_left (fun v hv => xz_cg hk (he v hv))]
theorem xz_sh {t2 : XY} {z1 z2 : Nat → Nat} {n : Nat} (v : Value) : xz (xzz z1 z2 n, t2) (xsv n v) = xz (z2, t2) v := by
  cases v <;> first | rfl | exact congrArg Value.ref xzz_r
theorem xe_sh {t2 : XY} {z1 z2 : Nat → Nat} {n : Nat} (e : va_E) : xe (xzz z1 z2 n, t2) (xse n e) = xe (z2, t2) e := by
  rcases e with ⟨t, M, x⟩ | ⟨ci, fs⟩
  · rcases x with f | f | f | f | g
    · rfl
    · rfl
    · rfl
    · rfl
    · have e9 : (fun i => ((g i).map (n + ·)).map (xzz z1 z2 n)) = fun i => (g i).map z2 := funext fun i => by
        cases hg : g i with
        | none => rfl
        | some b => exact congrArg some xzz_r
      show Sum.inl (t2.2 t, M, _) = Sum.inl (t2.2 t, M, _)
      rw [← e9]
  · show Sum.inr (ci, (fs.map (xsv n)).map (xz (xzz z1 z2 n, t2))) = Sum.inr (ci, fs.map (xz (z2, t2)))
    rw [List.map_map]
    have e9 : fs.map (xz (xzz z1 z2 n, t2) ∘ xsv n) = fs.map (xz (z2, t2)) := List.map_congr_left (fun v _ => xz_sh v)
    rw [e9]
theorem xq_app {t2 : XY} {z1 z2 : Nat → Nat} {w W : XW} (hw : xwb w) : xq (xzz z1 z2 w.length, t2) (w ++ W.map (xse w.length)) = xq (z1, t2) w ++ xq (z2, t2) W := by
  apply List.ext_getElem?
  intro j
  rw [xq_get]
  by_cases h : j < w.length
  · rw [List.getElem?_append_left h, List.getElem?_append_left (by rw [xq_len]; exact h), xq_get, List.getElem?_eq_getElem h]
    show some (xzz z1 z2 w.length j, _) = some (z1 j, _)
    rw [xzz_l h, xe_cg (fun k hk => xzz_l hk) (hw _ (List.getElem_mem h))]
  · rw [List.getElem?_append_right (by omega), List.getElem?_append_right (by rw [xq_len]; omega), xq_get, xq_len, List.getElem?_map]
    have ej : xzz z1 z2 w.length j = z2 (j - w.length) := if_neg h
    cases hW : W[j - w.length]? with
    | none => rfl
    | some e =>
      show some (xzz z1 z2 w.length j, xe (xzz z1 z2 w.length, t2) (xse w.length e)) = some (z2 (j - w.length), xe (z2, t2) e)
      rw [ej, xe_sh]
theorem xwb_app {w W : XW} (hw : xwb w) (hW : xwb W) : xwb (w ++ W.map (xse w.length)) := by
  intro e he
  rw [List.length_append, List.length_map]
  rcases List.mem_append.mp he with h | h
  · exact xeb_up (Nat.le_add_right _ _) (hw e h)
  · obtain ⟨u, hu, rfl⟩ := List.mem_map.mp h
    exact xeb_sh (hW u hu)
theorem xwb_set {w : XW} (hw : xwb w) {q ci f : Nat} {fs : List Value} {v : Value} (hq : w[q]? = some (.inr (ci, fs))) (hv : xvb w.length v) : xwb (w.set q (.inr (ci, fs.set f v))) := by
  intro e he
  rw [List.length_set]
  rcases List.mem_or_eq_of_mem_set he with h | h
  · exact hw e h
  · subst h
    intro u hu
    rcases List.mem_or_eq_of_mem_set hu with g | g
    · exact hw _ (List.mem_of_getElem? hq) u g
    · subst g
      exact hv
def gB (h0 : Option Nat) (ls : XL) (st : List Value) (w : XW) : Prop := xwb w ∧ (∀ v ∈ st, xvb w.length v) ∧ (∀ q ∈ ls, xvb w.length q.2) ∧ (h0 = none ∨ 0 < w.length)
def gZ (h0 : Option Nat) (z1 : Nat → Nat) : Prop := ∀ a, h0 = some a → z1 0 = a
def gnl : List (String × Nat × MethodName) := [("RingChoir", 11, ⟨"RingChoir$Choir", "<init>", "()V"⟩), ("RingChoir$Choir", 42, ⟨"RingChoir$Law", "<init>", "()V"⟩), ("RingChoir", 21, ⟨"RingChoir$Steps", "<init>", "()V"⟩), ("RingChoir", 28, ⟨"RingChoir$Run", "<init>", "()V"⟩), ("RingChoir", 38, ⟨"RingChoir$Rounds", "<init>", "()V"⟩), ("RingChoir", 45, ⟨"RingChoir$AllStates", "<init>", "()V"⟩), ("RingChoir", 52, ⟨"RingChoir$Sheets", "<init>", "()V"⟩), ("RingChoir", 59, ⟨"RingChoir$Voices", "<init>", "()V"⟩), ("RingChoir", 66, ⟨"RingChoir$Reader", "<init>", "()V"⟩), ("RingChoir$Reader", 11, ⟨"RingChoir$Law", "<init>", "()V"⟩)]
def gAO (s : State) : Prop := (∃ (cI cA : ClassId) (kA : Class), s.vm.findClass (FieldType.array .int).toString = some cI ∧ s.vm.classes[cA]? = some kA ∧ kA.kind = .array cI (.array .int) ∧ s.vm.findClass ("[" ++ (FieldType.array .int).toString) = some cA) ∧ ∀ q ∈ gnl, va_Nw (.methodLinkNest q.1 q.2.1 q.2.2 "RingChoir") s
def gCtx (p : Program) (s : State) (m : MethodId) (args : Array Value) (c : Code) (cc : ByteArray) (nL : Nat) (own : String) (D : va_G) (t2 : XY) (L : Nat) (xs : Nat → Int32) (A : Nat → Prop) : Prop :=
  p.tables.exec = Jvm.exec ∧ c.code = cc ∧ c.maxLocals = nL ∧ s.vm.findClass own = some m.cls ∧ (∀ w ∈ lw_g, w.before args s = true) ∧ va_K D vwCl (xt (fun _ => 0, t2)) s ∧ (∀ q, s.heap.size ≤ q → A q) ∧ xC (fun _ => 0, t2) L xs A s ∧ gAO s
def gOK (p : Program) (l : Launch) (e : Env) (R : Room) (s : State) (m : MethodId) (args : Array Value) (below : List Frame) (meth : Method) (c : Code) (nL : Nat) (D : va_G) (t2 : XY) (A : Nat → Prop) (Q : State → Prop) (h0 : Option Nat) (cs sl : Nat) (pc : Nat) (ls : XL) (st : List Value) (w : XW) : Prop :=
  gB h0 ls st w → ∀ z1, gZ h0 z1 → xOK p l e R s m args below meth c nL D (z1, t2) A cs sl Q pc ls st w
section GROW
variable {p : Program} {l : Launch} {e : Env} {R : Room} {s : State} {m : MethodId} {args : Array Value} {below : List Frame} {meth : Method} {c : Code} {cc : ByteArray} {nL : Nat} {own : String} {D : va_G} {t2 : XY} {L : Nat} {xs : Nat → Int32} {A : Nat → Prop} {cs sl cs1 sl1 : Nat} {Q : State → Prop} {h0 : Option Nat} {pc pc1 : Nat} {ls : XL} {st : List Value} {w : XW}
theorem g_grow {W9 : XW} {H1 : Heap} {locs : List Loc} {la : Array Slot} {z1 z2 : Nat → Nat} (kk : gOK p l e R s m args below meth c nL D t2 A Q h0 cs1 sl1 pc1 ls (.ref w.length :: st) (w ++ W9.map (xse w.length))) (hB : gB h0 ls st w) (hz : gZ h0 z1) (hWb : xwb W9) (hW0 : 0 < W9.length)
    (hP : va_P D vwCl (xq (z1, t2) w ++ xq (z2, t2) W9) H1) (hD : va_D A (xq (z1, t2) w ++ xq (z2, t2) W9)) (hS : va_S A s.heap H1 locs) (hv : lv_has la nL (ls.map (fun q => (q.1, xz (z1, t2) q.2)))) :
    W p l e R s m args below meth c H1 locs cs1 sl1 Q (F0 m pc1 la (.ref (z2 0) :: st.map (xz (z1, t2)))) := by
  obtain ⟨b1, b2, b3, b4⟩ := hB
  have e1 := xq_app (z1 := z1) (z2 := z2) (t2 := t2) (W := W9) b1
  have hk : ∀ k, k < w.length → xzz z1 z2 w.length k = z1 k := fun k h => xzz_l h
  have es : st.map (xz (xzz z1 z2 w.length, t2)) = st.map (xz (z1, t2)) := List.map_congr_left (fun v h => xz_cg hk (b2 v h))
  have el : ls.map (fun q => (q.1, xz (xzz z1 z2 w.length, t2) q.2)) = ls.map (fun q => (q.1, xz (z1, t2) q.2)) := List.map_congr_left (fun q h => by rw [xz_cg hk (b3 q h)])
  have hlen : (w ++ W9.map (xse w.length)).length = w.length + W9.length := by rw [List.length_append, List.length_map]
  have h9 := kk ⟨xwb_app b1 hWb, fun v h => by
      rw [hlen]
      rcases List.mem_cons.mp h with rfl | h
      · show w.length < w.length + W9.length
        omega
      · exact xvb_up (Nat.le_add_right _ _) (b2 v h), fun q h => by
      rw [hlen]
      exact xvb_up (Nat.le_add_right _ _) (b3 q h), Or.inr (by rw [hlen]; omega)⟩ (xzz z1 z2 w.length) (fun a ha => by
      rcases b4 with h | h
      · rw [h] at ha
        cases ha
      · rw [hk 0 h]
        exact hz a ha) H1 locs la (by rw [e1]; exact hP) (by rw [e1]; exact hD) hS (by rw [el]; exact hv)
  rw [List.map_cons, es] at h9
  have e0 : xz (xzz z1 z2 w.length, t2) (.ref w.length) = .ref (z2 0) := congrArg Value.ref (xzz_r (k := 0))
  rw [e0] at h9
  exact h9
theorem g_aload0 (X : gCtx p s m args c cc nL own D t2 L xs A) (hd : decode cc pc = .ok (.aload_n 0, 1)) {v : Value} {q : Nat} (hv0 : v = .ref q) (hg : xget ls 0 = some v) (kk : gOK p l e R s m args below meth c nL D t2 A Q h0 cs sl (pc + 1) ls (v :: st) w) : gOK p l e R s m args below meth c nL D t2 A Q h0 cs sl pc ls st w := by
  intro hB z1 hz H locs la hP hD hS hv
  obtain ⟨hx, hb, -⟩ := X
  subst hv0
  exact lv_aload_n hx hb hd rfl (xhas_get hv hg) (kk ⟨hB.1, fun v h => by
    rcases List.mem_cons.mp h with rfl | h
    · exact hB.2.2.1 _ (xget_mem hg)
    · exact hB.2.1 v h, hB.2.2⟩ z1 hz H locs la hP hD hS hv)
theorem gB_i {x : Int32} (hB : gB h0 ls st w) : gB h0 ls (.int x :: st) w := ⟨hB.1, fun v h => by
    rcases List.mem_cons.mp h with rfl | h
    · trivial
    · exact hB.2.1 v h, hB.2.2⟩
theorem g_iconst (X : gCtx p s m args c cc nL own D t2 L xs A) {n : Int} (hd : decode cc pc = .ok (.iconst n, 1)) (kk : gOK p l e R s m args below meth c nL D t2 A Q h0 cs sl (pc + 1) ls (.int (Int32.ofInt n) :: st) w) : gOK p l e R s m args below meth c nL D t2 A Q h0 cs sl pc ls st w := by
  intro hB z1 hz H locs la hP hD hS hv
  obtain ⟨hx, hb, -⟩ := X
  exact lv_iconst hx hb hd rfl (kk (gB_i hB) z1 hz H locs la hP hD hS hv)
theorem g_bipush (X : gCtx p s m args c cc nL own D t2 L xs A) {n : Int} (hd : decode cc pc = .ok (.bipush n, 2)) (kk : gOK p l e R s m args below meth c nL D t2 A Q h0 cs sl (pc + 2) ls (.int (Int8.ofInt n).toInt32 :: st) w) : gOK p l e R s m args below meth c nL D t2 A Q h0 cs sl pc ls st w := by
  intro hB z1 hz H locs la hP hD hS hv
  obtain ⟨hx, hb, -⟩ := X
  exact lv_bipush hx hb hd rfl (kk (gB_i hB) z1 hz H locs la hP hD hS hv)
theorem g_sipush (X : gCtx p s m args c cc nL own D t2 L xs A) {n : Int} (hd : decode cc pc = .ok (.sipush n, 3)) (kk : gOK p l e R s m args below meth c nL D t2 A Q h0 cs sl (pc + 3) ls (.int (Int16.ofInt n).toInt32 :: st) w) : gOK p l e R s m args below meth c nL D t2 A Q h0 cs sl pc ls st w := by
  intro hB z1 hz H locs la hP hD hS hv
  obtain ⟨hx, hb, -⟩ := X
  exact lv_sipush hx hb hd rfl (kk (gB_i hB) z1 hz H locs la hP hD hS hv)
theorem g_ldcS (X : gCtx p s m args c cc nL own D t2 L xs A) {n q : Nat} {tx : String} (hr : (own, n, tx, q) ∈ xsr) (hd : decode cc pc = .ok (.ldc n, 2)) (kk : gOK p l e R s m args below meth c nL D t2 A Q h0 cs sl (pc + 2) ls (.retAddr q :: st) w) : gOK p l e R s m args below meth c nL D t2 A Q h0 cs sl pc ls st w := by
  intro hB z1 hz H locs la hP hD hS hv
  obtain ⟨hx, hb, hml, hown, hts, hK, hA, hCn, hAO⟩ := X
  exact va_ldcS hx hb hown (hCn.2.2.2.2.2.1 _ hr) hd (kk ⟨hB.1, fun v h => by
    rcases List.mem_cons.mp h with rfl | h
    · trivial
    · exact hB.2.1 v h, hB.2.2⟩ z1 hz H locs la hP hD hS hv)
theorem gB_p {q ci f : Nat} {fs : List Value} {v : Value} (hq : w[q]? = some (.inr (ci, fs))) (hB : gB h0 ls (v :: .ref q :: st) w) : gB h0 ls st (w.set q (.inr (ci, fs.set f v))) := by
  obtain ⟨b1, b2, b3, b4⟩ := hB
  refine ⟨xwb_set b1 hq (b2 v List.mem_cons_self), ?_, ?_, ?_⟩
  · rw [List.length_set]
    exact fun u h => b2 u (List.mem_cons_of_mem _ (List.mem_cons_of_mem _ h))
  · rw [List.length_set]
    exact b3
  · rw [List.length_set]
    exact b4
theorem g_put (X : gCtx p s m args c cc nL own D t2 L xs A) {fl : XF} (hF : xFok own fl) {n q ci f : Nat} {ty : FieldType} (fin : Bool) {fs : List Value} {v : Value} (hfl : fl n = some (ci, f, ty, fin)) (hin2 : fin = true → meth.name = "<init>") (hdecl : ∀ C T N, vwCl[ci]? = some (C, T, N) → (T f).1 = own) (hq : w[q]? = some (.inr (ci, fs))) (hl : f < fs.length) (hty : xfit ty v True) (hd : decode cc pc = .ok (.putfield n, 3)) {w9 : XW} (hw1 : w.set q (.inr (ci, fs.set f v)) = w9) (kk : gOK p l e R s m args below meth c nL D t2 A Q h0 cs sl (pc + 3) ls st w9) : gOK p l e R s m args below meth c nL D t2 A Q h0 cs sl pc ls (v :: .ref q :: st) w := by
  subst hw1
  intro hB z1 hz H locs la hP hD hS hv
  obtain ⟨hx, hb, hml, hown, hts, hK, hA, hCn, hAO⟩ := X
  have hK : va_K D vwCl (xt (z1, t2)) s := hK
  obtain ⟨C, T, N, ty0, hc, hf, hin, hlk, hfin, hpd, hty0, hnm⟩ := hF n ci f ty fin hfl
  obtain ⟨f1, f2, -⟩ := xfit_s (z := (z1, t2)) hty
  have e3 : (xq (z1, t2) w).set q (z1 q, .inr (ci, (fs.map (xz (z1, t2))).set f (xz (z1, t2) v))) = xq (z1, t2) (w.set q (.inr (ci, fs.set f v))) := by
    rw [← xq_set, ← List.map_set]
    rfl
  have hB2 := gB_p (f := f) hq hB
  cases fin with
  | false =>
    refine va_put hx hb hts hin ty0 hty0 hnm hown hK hP hD hS q (xq_at hq) hc f hf (hts _ hlk) (fun _ h9 => h9) hfin hpd f1 f2 (by rw [List.length_map]; exact hl) hd (fun H1 locs1 hP1 hD1 hS1 => ?_)
    rw [e3] at hP1 hD1
    exact kk hB2 z1 hz H1 locs1 la hP1 hD1 hS1 hv
  | true =>
    refine va_putF hx hb hts hin ty0 hty0 hnm hown hK hP hD hS q (xq_at hq) hc f hf (hts _ hlk) (fun _ h9 => h9) hfin (hin2 rfl) (hdecl C T N hc) hpd f1 f2 (by rw [List.length_map]; exact hl) hd (fun H1 locs1 hP1 hD1 hS1 => ?_)
    rw [e3] at hP1 hD1
    exact kk hB2 z1 hz H1 locs1 la hP1 hD1 hS1 hv
theorem g_obj (X : gCtx p s m args c cc nL own D t2 L xs A) {n q : Nat} (w1 : Cond.methodLink own n objectInit ∈ lw_g) (w2 : Cond.instanceMethod objectInit ∈ lw_g) (w3 : Cond.code objectInit ⟨#[0xb1]⟩ 1 none ∈ lw_g) (hR : 1 ≤ R.frames ∧ 12 ≤ R.locals) (hd : decode cc pc = .ok (.invokespecial n, 3)) (kk : gOK p l e R s m args below meth c nL D t2 A Q h0 cs sl (pc + 3) ls [] w) : gOK p l e R s m args below meth c nL D t2 A Q h0 cs sl pc ls [.ref q] w := by
  intro hB z1 hz H locs la hP hD hS hv
  obtain ⟨hx, hb, hml, hown, hts, hK, hA, hCn, hAO⟩ := X
  exact W.objInit hx hb hown (hts _ w1) (hts _ w2) (hts _ w3) rfl (by rw [hml]; exact hv.1) rfl hd hR.1 hR.2 (kk ⟨hB.1, fun v h => (by cases h), hB.2.2⟩ z1 hz H locs la hP hD hS hv)
theorem xwb_a {t N : Nat} {f : Nat → Int32} : xwb [.inl (t, N, .inl f)] := fun e he => by
  rw [List.mem_singleton.mp he]
  trivial
theorem g_newa (X : gCtx p s m args c cc nL own D t2 L xs A) {atype : ArrayType} {ti N : Nat} (hty : (ti = 0 ∧ atype = .int) ∨ (ti = 1 ∧ atype = .byte)) {n : Int32} (hn : ¬ n < 0) (hN : n.toNatClampNeg = N) (hbig : N ≤ 100000) (hcs : cs + 1 ≤ R.cells) (hsl : sl + N ≤ R.slots) (w1 : Cond.arrayClass (newarray.typeOf atype) ∈ lw_g) (hd : decode cc pc = .ok (.newarray atype, 2)) {k0 cs2 sl2 : Nat} {w9 : XW} (hk0 : w.length = k0) (hcs2 : cs + 1 = cs2) (hsl2 : sl + N = sl2) (hw1 : w ++ [.inl (ti, N, .inl (fun _ => 0))] = w9)
    (kk : gOK p l e R s m args below meth c nL D t2 A Q h0 cs2 sl2 (pc + 2) ls (.ref k0 :: st) w9) : gOK p l e R s m args below meth c nL D t2 A Q h0 cs sl pc ls (.int n :: st) w := by
  subst hk0
  subst hcs2
  subst hsl2
  subst hw1
  intro hB z1 hz H locs la hP hD hS hv
  obtain ⟨hx, hb, hml, hown, hts, hK, hA, hCn, hAO⟩ := X
  have hB' : gB h0 ls st w := ⟨hB.1, fun v h => hB.2.1 v (List.mem_cons_of_mem _ h), hB.2.2⟩
  have hbytes : N * componentBytes (newarray.typeOf atype) ≤ 536870912 := by
    rcases hty with ⟨-, rfl⟩ | ⟨-, rfl⟩
    · show N * 4 ≤ _
      omega
    · show N * 1 ≤ _
      omega
  refine va_newaK hx hb (hts _ w1) rfl hd rfl hn hN hbytes hcs hsl rfl (fun H1 cA e1 z9 o1 hAr hNm => ?_)
  have hcA : cA = t2.2 ti ∧ ∀ cB : ClassId, vp_cell cB (N, .inl (fun _ => 0)) = arrV cB N (fun _ => defaultValue (newarray.typeOf atype)) := by
    rcases hty with ⟨rfl, rfl⟩ | ⟨rfl, rfl⟩
    · exact ⟨Option.some.inj (hNm.symm.trans (hK.2 0 _ rfl).2), fun _ => rfl⟩
    · exact ⟨Option.some.inj (hNm.symm.trans (hK.2 1 _ rfl).2), fun _ => rfl⟩
  have hk : ∀ (k : Nat) (x : Nat × va_E), (xq (z1, t2) w)[k]? = some x → H1[x.1]? = H[x.1]? := fun k x hx => o1 x.1 ((hP k x hx).lt)
  refine g_grow (W9 := [.inl (ti, N, .inl (fun _ => 0))]) (z2 := fun _ => H.size) kk hB' hz xwb_a (Nat.zero_lt_succ _) ((hP.kept hk).app (fun k x hx => ?_)) (hD.push hP rfl (hA _ hS.1)) ⟨Nat.le_trans hS.1 (by omega), fun x h1 h2 => (o1 x (Nat.lt_of_lt_of_le h1 hS.1)).trans (hS.2.1 x h1 h2), hS.2.2⟩ hv
  have hz : k < 1 := (List.getElem?_eq_some_iff.mp hx).1
  rw [show k = 0 by omega] at hx
  cases hx
  show H1[H.size]? = some (vp_cell (t2.2 ti) (N, .inl (fun _ => 0)))
  rw [hcA.2, ← hcA.1]
  exact e1
end GROW
def grm (d mc ms : Nat) : Room := { frames := d, cells := mc, slots := ms, locals := 40 * d }
def gPre (D : va_G) (t2 : XY) (L : Nat) (xs : Nat → Int32) (ws : va_W) (sz : Nat) (U : State) : Prop := U.heap.size = sz ∧ va_P D vwCl ws U.heap ∧ va_K D vwCl (xt (fun _ => 0, t2)) U ∧ va_D (fun _ => True) ws ∧ xC (fun _ => 0, t2) L xs (va_A ws sz) U ∧ gAO U
def gPost (D : va_G) (t2 : XY) (h0 : Nat) (ws : va_W) (Wd : XW) (sz : Nat) : Array Value → State → Outcome → State → Prop := fun _ st o t => (∃ z1 : Nat → Nat, z1 0 = h0 ∧ xwb Wd ∧ o = .returned none ∧ va_P D vwCl (xq (z1, t2) Wd) t.heap ∧ va_D (va_A ws sz) (xq (z1, t2) Wd)) ∧ va_F (va_A ws sz) st t
def gCT (d mc ms : Nat) (y : MethodName) (b : ByteArray) (ci : Nat) (fs0 : List Value) (Wd : XW) : Prop :=
  ∀ (l : Launch) (D : va_G) (t2 : XY) (L : Nat) (xs : Nat → Int32) (sz h0 : Nat), Met l y (.code y b 1 none :: lw_g) (grm d mc ms) (va_Pc [.ref h0] (gPre D t2 L xs [(h0, .inr (ci, fs0))] sz)) (gPost D t2 h0 [(h0, .inr (ci, fs0))] Wd sz) mc ms (va_A [(h0, .inr (ci, fs0))] sz)
theorem gAO.mv {s U : State} (hW : s.WarmedH U.vm) (h : gAO s) : gAO U := by
  obtain ⟨⟨cI, cA, kA, h1, h2, h3, h4⟩, h5⟩ := h
  have hvm := hW.alike
  obtain ⟨k2, g1, g2⟩ := hvm.2.2 _ _ h2
  exact ⟨⟨cI, cA, k2, by rw [hvm.findClass]; exact h1, g1, by rw [g2]; exact h3, by rw [hvm.findClass]; exact h4⟩, fun q hq => va_Nw.warmM hW (h5 q hq)⟩
theorem gmet {y : MethodName} {b : ByteArray} {ci : Nat} {fs0 : List Value} {Wd : XW} {mc ms d : Nat} (hy : plainName y.cls = true) (hyn : y.name = "<init>") (hf : ∀ z : XZ, fs0.map (xz z) = fs0) (hfb : ∀ v ∈ fs0, xvb 1 v)
    (body : ∀ {p : Program} {l : Launch} {e : Env} {s : State} {m : MethodId} {args : Array Value} {below : List Frame} {meth : Method} {c : Code} {D : va_G} {t2 : XY} {L : Nat} {xs : Nat → Int32} {A : Nat → Prop} {Q : State → Prop} {h0 : Option Nat}, gCtx p s m args c b 1 y.cls D t2 L xs A → meth.name = "<init>" → (∀ pc ls z1, decode b pc = .ok (.return_, 1) → xwb Wd → gZ h0 z1 → xOK p l e (grm d mc ms) s m args below meth c 1 D (z1, t2) A mc ms Q pc ls [] Wd) → gOK p l e (grm d mc ms) s m args below meth c 1 D t2 A Q h0 0 0 0 [(0, .ref 0)] [] [.inr (ci, fs0)]) : gCT d mc ms y b ci fs0 Wd := by
  intro l D t2 L xs sz h0
  refine Met.ofW (cc := b) (maxL := 1) (ret := none) hy rfl ?_
  intro p e s m args below meth c s₁ B hml hv
  obtain ⟨rfl, hsz, hP, hK, hD0, hCn, hAO⟩ := hv
  have hx := B.exec
  have hb := B.bytes
  have hr := B.returns
  have hts0 := atoms_spec (ws := .code y b 1 none :: lw_g) B.pre
  have hts : ∀ w ∈ lw_g, w.before ([.ref h0] : List Value).toArray s = true := fun w h => hts0 w (List.mem_cons_of_mem _ h)
  have hown : s.vm.findClass y.cls = some m.cls := findClass_of_methodNamed B.named
  have hlocks := B.notSynchronized
  have hin : meth.name = "<init>" := (name_of_methodNamed B.named B.method).1.trans hyn
  subst hsz
  have hD := hD0.self (sz := s.heap.size)
  have hA : ∀ q : Nat, s.heap.size ≤ q → va_A [(h0, .inr (ci, fs0))] s.heap.size q := fun q h => Or.inr h
  have hSS : va_S (va_A [(h0, .inr (ci, fs0))] s.heap.size) s.heap s.heap [] := va_S.rf
  have e0 : xq (fun _ => h0, t2) [.inr (ci, fs0)] = [(h0, .inr (ci, fs0))] := by
    show [(h0, Sum.inr (ci, fs0.map (xz (fun _ => h0, t2))))] = _
    rw [hf]
  have hl := lv_entry ([.ref h0]) (n := 1) (Nat.le_of_ble_eq_true rfl)
  rw [lg_entry_eq]
  refine body (p := p) (l := l) (e := e) (s := s) (m := m) (below := below) (meth := meth) (c := c) (D := D) (t2 := t2) (L := L) (xs := xs) (A := va_A [(h0, .inr (ci, fs0))] s.heap.size) (h0 := some h0) ⟨hx, hb, hml, hown, hts, hK, hA, hCn, hAO⟩ hin ?_ ⟨fun e he => ?_, fun v h => (by cases h), fun q h => ?_, Or.inr (Nat.zero_lt_succ _)⟩ (fun _ => h0) (fun a ha => Option.some.inj ha) s.heap [] _ (by rw [e0]; exact hP) (by rw [e0]; exact hD) hSS hl
  · intro pc ls z1 hd hB hz H locs la hP2 hD2 hS2 hv2
    exact W.vret hx hb hr (fun t ht hW => ⟨⟨z1, hz h0 rfl, hB, rfl, by rw [ht]; exact hP2, hD2⟩, hS2.F ht⟩) hS2.2.2 hd
  · rw [List.mem_singleton.mp he]
    exact hfb
  · rw [List.mem_singleton.mp h]
    show 0 < 1
    decide
section GNEW
variable {p : Program} {l : Launch} {e : Env} {R : Room} {s : State} {m : MethodId} {args : Array Value} {below : List Frame} {meth : Method} {c : Code} {cc : ByteArray} {nL : Nat} {own : String} {D : va_G} {t2 : XY} {L : Nat} {xs : Nat → Int32} {A : Nat → Prop} {cs sl : Nat} {Q : State → Prop} {h0 : Option Nat} {pc : Nat} {ls : XL} {st : List Value} {w : XW}
theorem gblind {av : List Value} {ws : va_W} {sz : Nat} : FrameBlind (va_Pc av (gPre D t2 L xs ws sz)) := fun a U g mk q => by
  obtain ⟨q0, q1, qP, qK, qD, qC, qA⟩ := q
  exact ⟨q0, q1, qP, va_K.moved (u := U) (U := U.calling g mk a) (Vm.Alike.refl U.vm) qK, qD, xC.go qC (State.WarmedH.refl U) (fun _ _ _ => rfl) (fun _ h => h), gAO.mv (State.WarmedH.refl U) qA⟩
theorem g_new (X : gCtx p s m args c cc nL own D t2 L xs A) {i1 i2 ci N d mc ms : Nat} {y : MethodName} {b : ByteArray} {T : u_T} {fs0 : List Value} {Wd W1 : XW} (hM : gCT d mc ms y b ci fs0 Wd) (hc : vwCl[ci]? = some (y.cls, T, N)) (ty : Nat → FieldType) (hty : ∀ k, k < N → parseFieldDescriptor (T k).2.2.1 = some (ty k)) (hfs : ∀ j, j < N → defaultValue (ty j) = vp_V fs0 j) (hin : ∀ w ∈ u_ws y.cls T N, w ∈ lw_g)
    (w1 : Cond.classLink own i1 y.cls ∈ lw_g) (w2 : Cond.instantiable y.cls N ∈ lw_g) (w3 : Cond.initialized y.cls ∈ lw_g) (w4 : Cond.methodLink own i2 y ∈ lw_g ∨ (own, i2, y) ∈ gnl) (w5 : Cond.instanceMethod y ∈ lw_g) (w6 : Cond.code y b 1 none ∈ lw_g) (hyn : y.name = "<init>") (hyd : y.cls ≠ "java/lang/invoke/MethodHandle" ∧ y.cls ≠ "java/lang/invoke/VarHandle" ∧ (parseMethodDescriptor y.desc).map (fun d => d.parameters.length) = some 0)
    (hW0 : 0 < Wd.length) (hR : d + 1 ≤ R.frames ∧ 40 * d + 40 ≤ R.locals) (hcs : cs + 1 + mc ≤ R.cells) (hsl : sl + N + ms ≤ R.slots) (hst : xsum st ≤ 7) (hd0 : decode cc pc = .ok (.new i1, 3)) (hd1 : decode cc (pc + 3) = .ok (.dup, 1)) (hd2 : decode cc (pc + 4) = .ok (.invokespecial i2, 3)) {k0 cs2 sl2 : Nat} {w9 : XW} (hk0 : w.length = k0) (hcs2 : cs + 1 + mc = cs2) (hsl2 : sl + N + ms = sl2) (hW1 : Wd.map (xse k0) = W1) (hw1 : w ++ W1 = w9)
    (kk : gOK p l e R s m args below meth c nL D t2 A Q h0 cs2 sl2 (pc + 7) ls (.ref k0 :: st) w9) : gOK p l e R s m args below meth c nL D t2 A Q h0 cs sl pc ls st w := by
  subst hk0
  subst hcs2
  subst hsl2
  subst hW1
  subst hw1
  intro hB z1 hz H locs la hP hD hS hv
  obtain ⟨hx, hb, hml, hown, hts, hK, hA, hCn, hAO⟩ := X
  refine va_new (ci := ci) (fs := fs0) hx hb hts hin ty hty hown (hts _ w1) (hts _ w2) (hts _ w3) hK hP hD hS hA hc hfs (by omega) (by omega) hd0 (fun q H1 hP1 hD1 hS1 => ?_)
  refine lv_dup hx hb hd1 rfl ?_
  have hql : (xq (z1, t2) w ++ [(q, (Sum.inr (ci, fs0) : va_E))])[(xq (z1, t2) w).length]? = some (q, .inr (ci, fs0)) := by simp
  have hPc : va_P D vwCl [(q, .inr (ci, fs0))] H1 := fun k x hx9 => by
    have hz : k < 1 := (List.getElem?_eq_some_iff.mp hx9).1
    rw [show k = 0 by omega] at hx9
    cases hx9
    exact hP1 _ _ hql
  have hAq : A q := hD1.2 _ _ hql
  have hFc : ∀ a, va_A [(q, (Sum.inr (ci, fs0) : va_E))] H1.size a → A a := by
    intro a h
    rcases h with ⟨k, e9, h⟩ | h
    · have hz : k < 1 := (List.getElem?_eq_some_iff.mp h).1
      rw [show k = 0 by omega] at h
      cases h
      exact hAq
    · exact hA a (Nat.le_trans hS1.1 h)
  have hDc : va_D (fun _ => True) [(q, (Sum.inr (ci, fs0) : va_E))] := ⟨fun i j x y hi hj _ => by
    have h1 : i < 1 := (List.getElem?_eq_some_iff.mp hi).1
    have h2 : j < 1 := (List.getElem?_eq_some_iff.mp hj).1
    omega, fun _ _ _ => trivial⟩
  have hpre : PreS s H1 (va_Pc [.ref q] (gPre D t2 L xs [(q, .inr (ci, fs0))] H1.size)) [.ref q] := ⟨gblind, fun U hU hW => ⟨rfl, by rw [hU], by rw [hU]; exact hPc, va_K.moved hW.alike hK, hDc, xC.go hCn hW (fun a h1 h2 => by rw [hU]; exact hS1.2.1 a h1 h2) (fun a h => hFc a h), gAO.mv hW hAO⟩⟩
  have hroom : 2 * (F0 m (pc + 4) la (.ref q :: .ref q :: st.map (xz (z1, t2)))).monitorRoom + ((Value.ref q :: st.map (xz (z1, t2))).map fun v => v.category).sum ≤ 8 := by
    show 0 + ((Value.ref q :: st.map (xz (z1, t2))).map fun v => v.category).sum ≤ 8
    rw [List.map_cons, List.sum_cons, xsum_s]
    show 0 + (1 + xsum st) ≤ 8
    omega
  have hrm : (grm d mc ms).frames + 1 ≤ R.frames ∧ 8 + (1 + 11) + (grm d mc ms).locals ≤ R.locals := ⟨hR.1, by have := hR.2; show 8 + (1 + 11) + 40 * d ≤ R.locals; omega⟩
  have hr : va_Run p l e R s m args below meth c H1 locs (cs + 1) (sl + N) mc ms (F0 m (pc + 4) la (.ref q :: .ref q :: st.map (xz (z1, t2)))) (.ref q :: st.map (xz (z1, t2))) (gPost D t2 q [(q, .inr (ci, fs0))] Wd H1.size ([.ref q] : List Value).toArray) (va_A [(q, .inr (ci, fs0))] H1.size) := by
    rcases w4 with w4 | w4
    · exact va_runI (As := []) ⟨hx, hb, hml, hown, hts⟩ (hM l D t2 L xs H1.size q) (cwI 0 hts (xgood_in w6) rfl rfl rfl (hts _ w3) (hts _ w4) (hts _ w5) hyn hyd hrm) hpre rfl rfl hv.1 rfl hroom hd2 ⟨hcs, hsl⟩
    · exact va_runIN (As := []) ⟨hx, hb, hml, hown, hts⟩ (hM l D t2 L xs H1.size q) ⟨va_cnB 0 hts (xgood_in w6) rfl rfl rfl (hAO.2 _ w4) (hts _ w3) hyd hrm, hyn, hts _ w5⟩ hpre rfl rfl hv.1 rfl hroom hd2 ⟨hcs, hsl⟩
  intro T9 hT X9
  obtain ⟨v, st₀, t, T', Lc, h9, X', hL, e1, e2, ⟨⟨z2, hz0, hWb, ho, hPz, hDz⟩, hzs, hk⟩, step⟩ := hr T9 hT X9
  cases ho
  rw [h9] at hzs hk
  have hlt : ∀ (k : Nat) (x : Nat × va_E), (xq (z1, t2) w)[k]? = some x → x.1 < H1.size ∧ x.1 ≠ q := fun k x hx9 => by
    have hkl : k < (xq (z1, t2) w).length := (List.getElem?_eq_some_iff.mp hx9).1
    have h1 : (xq (z1, t2) w ++ [(q, (Sum.inr (ci, fs0) : va_E))])[k]? = some x := by rw [List.getElem?_append_left hkl]; exact hx9
    refine ⟨(hP1 k x h1).lt, fun hq9 => ?_⟩
    have := hD1.1 k _ x _ h1 hql hq9
    omega
  have hnA : ∀ (k : Nat) (x : Nat × va_E), (xq (z1, t2) w)[k]? = some x → ¬ va_A [(q, (Sum.inr (ci, fs0) : va_E))] H1.size x.1 := fun k x hx9 h => by
    have := hlt k x hx9
    rcases h with ⟨k2, e9, h⟩ | h
    · have hz : k2 < 1 := (List.getElem?_eq_some_iff.mp h).1
      rw [show k2 = 0 by omega] at h
      cases h
      exact this.2 rfl
    · omega
  have hPw : va_P D vwCl (xq (z1, t2) w) T'.heap := fun k x hx9 => by
    have hkl : k < (xq (z1, t2) w).length := (List.getElem?_eq_some_iff.mp hx9).1
    have h1 : (xq (z1, t2) w ++ [(q, (Sum.inr (ci, fs0) : va_E))])[k]? = some x := by rw [List.getElem?_append_left hkl]; exact hx9
    refine (hP1 k x h1).kept ?_
    rw [e1]
    exact hk x.1 (hlt k x hx9).1 (hnA k x hx9)
  have hDw : va_D A (xq (z1, t2) w ++ xq (z2, t2) Wd) := hD.app (hDz.weaken (fun _ x _ h => hFc x.1 h)) (fun i j x y hi hj hxy => by
    have h1 := hDz.2 j y hj
    rw [← hxy] at h1
    exact hnA i x hi h1)
  obtain ⟨t3, a1, b1⟩ := g_grow (W9 := Wd) (z2 := z2) kk hB hz hWb hW0 (hPw.app (by rw [e1]; exact hPz)) hDw ⟨Nat.le_trans hS1.1 (by rw [e1]; exact hzs), fun a h1 h2 => by rw [e1, hk a (Nat.lt_of_lt_of_le h1 hS1.1) (fun g => h2 (hFc a g))]; exact hS1.2.1 a h1 h2, fun a ha => by
      rcases List.mem_append.mp ha with h | h
      · exact hS1.2.2 a h
      · exact hFc _ (hL a h)⟩ hv T' rfl X'
  rw [hz0] at a1
  exact ⟨t3, step t3 a1, b1⟩
end GNEW
section GTAIL
variable {p : Program} {l : Launch} {e : Env} {R : Room} {s : State} {m : MethodId} {args : Array Value} {below : List Frame} {meth : Method} {c : Code} {cc : ByteArray} {nL : Nat} {own : String} {D : va_G} {t2 : XY} {L : Nat} {xs : Nat → Int32} {A : Nat → Prop} {cs sl : Nat} {Q : State → Prop} {h0 : Option Nat} {pc : Nat} {ls : XL} {st : List Value} {w : XW}
theorem xwb_seta (hw : xwb w) {q t N : Nat} {f : Nat → Int32} : xwb (w.set q (.inl (t, N, .inl f))) := by
  intro e he
  rw [List.length_set]
  rcases List.mem_or_eq_of_mem_set he with h | h
  · exact hw e h
  · subst h
    trivial
theorem gCtx.x (X : gCtx p s m args c cc nL own D t2 L xs A) (hcs : cs ≤ R.cells) (hsl : sl ≤ R.slots) (z1 : Nat → Nat) : xCtx p R s m args c cc nL own D (z1, t2) L xs A cs sl := by
  obtain ⟨hx, hb, hml, hown, hts, hK, hA, hCn, hAO⟩ := X
  exact ⟨hx, hb, hml, hown, hts, hK, hA, hCn, hcs, hsl⟩
/-- the rest makes nothing new -/
theorem g_tail (X : gCtx p s m args c cc nL own D t2 L xs A) {tb : XT} {fl : XF} {Wd : XW} (hcs : cs ≤ R.cells) (hsl : sl ≤ R.slots) (hT : xTok cc tb) (hF : xFok own fl) (hret : ∀ pc ls z1, decode cc pc = .ok (.return_, 1) → xwb Wd → gZ h0 z1 → xOK p l e R s m args below meth c nL D (z1, t2) A cs sl Q pc ls [] Wd) (fuel : Nat) (hb : gB h0 ls st w → xwb Wd)
    (h : xw nL none L xs tb fl (fun _ => none) g0 (xlk []) (fun r w' => r = none ∧ w' = Wd) (fun _ => none) (fun _ _ _ _ => False) fuel pc ls st w) : gOK p l e R s m args below meth c nL D t2 A Q h0 cs sl pc ls st w := by
  intro hB z1 hz
  refine xw_ok (X.x hcs hsl z1) hT hF (fun n => ⟨fun _ h => (by cases h), fun _ h => (by cases h), fun _ h => (by cases h)⟩) g0_ok xg_nil ?_ ?_ ?_ (fun pc m9 ls st w h => by cases h) fuel pc ls st w h
  · intro pc ls x w _ h
    exact h.elim
  · intro pc ls x w _ h
    cases h
  · intro pc ls w hd _ h
    rw [h.2]
    exact hret pc ls z1 hd (hb hB) hz
end GTAIL
theorem KT_sh (o n b : Nat) : (fun i => (KT n b i).map (o + ·)) = KT n (o + b) := by
  funext i
  unfold KT
  cases Nat.ble (i + 1) n with
  | false => rfl
  | true => exact congrArg some (Nat.add_assoc o b i).symm
