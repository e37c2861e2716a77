/-! ===== runs of instructions, methods, calls ===== -/
section XRUN
variable {p : Program} {l : Launch} {e : Env} {R : Room} {s : State} {m : MethodId} {args : Array Value} {below : List Frame} {meth : Method} {c : Code} {cc : ByteArray} {nL : Nat} {own : String} {D : va_G} {z : XZ} {L : Nat} {xs : Nat → Int32} {A : Nat → Prop} {cs sl : Nat} {Q : State → Prop}
variable {tb : XT} {fl : XF} {kc : XK} {gs : XH} {cl : XG} {rt : Option FieldType} {Qp : Option Value → XW → Prop} {K : Nat → XL → List Value → XW → Prop} {cut : Nat → Option Nat}
theorem xw_ok (X : xCtx p R s m args c cc nL own D z L xs A cs sl) (hT : xTok cc tb) (hF : xFok own fl) (hKc : xKok own kc) (hG : xGok own gs) (hC : ∀ n v cnt S, cl n = some (v, cnt, S) → xCall own R n v cnt S)
    (hri : ∀ pc ls x w, decode cc pc = .ok (.ireturn, 1) → xret rt x (Qp (some (.int x)) w) → xOK p l e R s m args below meth c nL D z A cs sl Q pc ls [.int x] w)
    (hrl : ∀ pc ls x w, decode cc pc = .ok (.lreturn, 1) → rt = some .long → Qp (some (.long x)) w → xOK p l e R s m args below meth c nL D z A cs sl Q pc ls [.long x] w)
    (hrv : ∀ pc ls w, decode cc pc = .ok (.return_, 1) → rt = none → Qp none w → xOK p l e R s m args below meth c nL D z A cs sl Q pc ls [] w)
    (hcut : ∀ pc m9 ls st w, cut pc = some m9 → K pc ls st w → xOK p l e R s m args below meth c nL D z A cs sl Q pc ls st w) :
    ∀ (n pc : Nat) (ls : XL) (st : List Value) (w : XW), xw nL rt L xs tb fl kc gs cl Qp cut K n pc ls st w → xOK p l e R s m args below meth c nL D z A cs sl Q pc ls st w := by
  intro n
  induction n with
  | zero => intro pc ls st w h; exact h.elim
  | succ n ih =>
    intro pc ls st w h
    refine xstep_ok X hT hF hKc hG hC hri hrl hrv (fun pc ls st w h2 => ?_) pc ls st w h
    cases hc : cut pc with
    | some m9 =>
      rw [hc] at h2
      intro H locs la hP hD hS hv
      exact hcut pc m9 _ st w hc h2 H locs la hP hD hS (xhas_trim hv)
    | none => rw [hc] at h2; exact ih pc ls st w h2
/-- with loops: a measure falls from cut to cut -/
theorem xw_loop {P : Nat → Nat → XL → List Value → XW → Prop} (X : xCtx p R s m args c cc nL own D z L xs A cs sl) (hT : xTok cc tb) (hF : xFok own fl) (hKc : xKok own kc) (hG : xGok own gs) (hC : ∀ n v cnt S, cl n = some (v, cnt, S) → xCall own R n v cnt S)
    (hri : ∀ pc ls x w, decode cc pc = .ok (.ireturn, 1) → xret rt x (Qp (some (.int x)) w) → xOK p l e R s m args below meth c nL D z A cs sl Q pc ls [.int x] w)
    (hrl : ∀ pc ls x w, decode cc pc = .ok (.lreturn, 1) → rt = some .long → Qp (some (.long x)) w → xOK p l e R s m args below meth c nL D z A cs sl Q pc ls [.long x] w)
    (hrv : ∀ pc ls w, decode cc pc = .ok (.return_, 1) → rt = none → Qp none w → xOK p l e R s m args below meth c nL D z A cs sl Q pc ls [] w) (fuel : Nat)
    (hb : ∀ n pc m9 ls st w, cut pc = some m9 → P n pc ls st w → xw nL rt L xs tb fl kc gs cl Qp cut (fun pc ls st w => ∃ n', n' < n ∧ P n' pc ls st w) fuel pc ls st w) :
    ∀ n pc m9 ls st w, cut pc = some m9 → P n pc ls st w → xOK p l e R s m args below meth c nL D z A cs sl Q pc ls st w := by
  intro n
  induction n using Nat.strongRecOn with
  | ind n ih =>
    intro pc m9 ls st w hc hp
    exact xw_ok X hT hF hKc hG hC hri hrl hrv (fun pc m9 ls st w hc ⟨n', h1, h2⟩ => ih n' h1 pc m9 ls st w hc h2) fuel pc ls st w (hb n pc m9 ls st w hc hp)
end XRUN
def xrm (d : Nat) : Room := { frames := d, cells := 0, slots := 0, locals := 40 * d }
def xPre (D : va_G) (z : XZ) (L : Nat) (xs : Nat → Int32) (w : XW) (sz : Nat) (U : State) : Prop := U.heap.size = sz ∧ va_P D vwCl (xq z w) U.heap ∧ va_K D vwCl (xt z) U ∧ va_D (fun _ => True) (xq z w) ∧ xC z L xs (va_A (xq z w) sz) U
def xPost (D : va_G) (z : XZ) (w : XW) (sz : Nat) (Qp : Option Value → XW → Prop) : Array Value → State → Outcome → State → Prop := fun _ st o t => (∃ (r : Option Value) (w' : XW), o = .returned (r.map (xz z)) ∧ Qp r w' ∧ va_P D vwCl (xq z w') t.heap ∧ va_K D vwCl (xt z) t ∧ va_D (va_A (xq z w) sz) (xq z w')) ∧ va_F (va_A (xq z w) sz) st t
def xCT (d : Nat) (y : MethodName) (b : ByteArray) (nL : Nat) (rt : Option FieldType) (S : XS) : Prop :=
  ∀ (l : Launch) (D : va_G) (z : XZ) (L : Nat) (xs : Nat → Int32) (sz : Nat) (as : List Value) (w : XW) (Qp : Option Value → XW → Prop), S as w Qp → Met l y (.code y b nL rt :: lw_g) (xrm d) (va_Pc (as.map (xz z)) (xPre D z L xs w sz)) (xPost D z w sz Qp) 0 0 (va_A (xq z w) sz)
def xargs : Nat → List Value → XL
  | _, [] => []
  | i, v :: vs => (i, v) :: xargs (bif xlong v then i + 2 else i + 1) vs
theorem xargs_s (z : XZ) : ∀ (vs : List Value) (i : Nat), lv_args i (vs.map (xz z)) = (xargs i vs).map (fun q => (q.1, xz z q.2))
  | [], _ => rfl
  | v :: vs, i => by
    show (i, xz z v) :: lv_args (if (xz z v).category = 2 then i + 2 else i + 1) (vs.map (xz z)) = _
    have e : (if (xz z v).category = 2 then i + 2 else i + 1) = (bif xlong v then i + 2 else i + 1) := by
      rw [xz_cat]
      cases v <;> rfl
    rw [e, xargs_s z vs]
    rfl
theorem xwords_s (z : XZ) : ∀ (vs : List Value), (lg_sl (vs.map (xz z))).length = xsum vs
  | [] => rfl
  | v :: vs => by
    have ih := xwords_s z vs
    unfold lg_sl at ih ⊢
    rw [List.map_cons, List.flatMap_cons, List.length_append, ih]
    show _ = (bif xlong v then 2 else 1) + xsum vs
    congr 1
    rw [xz_cat]
    cases v <;> rfl
theorem xret_s {rt : Option FieldType} {x : Int32} {P : Prop} (h : xret rt x P) : ∃ ty, rt = some ty ∧ narrow ty (.int x) = .int x ∧ P := by
  unfold xret at h
  split at h
  · exact ⟨_, rfl, rfl, h⟩
  · exact ⟨_, rfl, h.1, h.2⟩
  · exact ⟨_, rfl, h.1, h.2⟩
  · exact ⟨_, rfl, h.1, h.2⟩
  · exact h.elim
/-- a method's contract out of its conditions -/
theorem xmet {y : MethodName} {b : ByteArray} {nL : Nat} {rt : Option FieldType} {tb : XT} {fl : XF} {kc : XK} {gs : XH} {cl : XG} {d : Nat} {S : XS} (hy : plainName y.cls = true) (hT : xTok b tb) (hF : xFok y.cls fl) (hKc : xKok y.cls kc) (hG : xGok y.cls gs) (hC : ∀ n v cnt S, cl n = some (v, cnt, S) → xCall y.cls (xrm d) n v cnt S)
    (body : ∀ (L : Nat) (xs : Nat → Int32) (as : List Value) (w : XW) (Qp : Option Value → XW → Prop), S as w Qp → xsum as ≤ nL ∧ ∃ (fuel : Nat) (cut : Nat → Option Nat) (P : Nat → Nat → XL → List Value → XW → Prop), xw nL rt L xs tb fl kc gs cl Qp cut (fun pc ls st w => ∃ n, P n pc ls st w) fuel 0 (xargs 0 as) [] w ∧ ∀ n pc m9 ls st w, cut pc = some m9 → P n pc ls st w → xw nL rt L xs tb fl kc gs cl Qp cut (fun pc ls st w => ∃ n', n' < n ∧ P n' pc ls st w) fuel pc ls st w) : xCT d y b nL rt S := by
  intro l D z L xs sz as w Qp hS
  obtain ⟨hle, fuel, cut, P, h0, h1⟩ := body L xs as w Qp hS
  refine Met.ofW (cc := b) (maxL := nL) (ret := rt) hy rfl ?_
  intro p e s m args below meth c s₁ B hml hv
  obtain ⟨rfl, hsz, hP, hK, hD0, hCn⟩ := hv
  have hx := B.exec
  have hb := B.bytes
  have hr := B.returns
  have hts0 := atoms_spec (ws := .code y b nL rt :: lw_g) B.pre
  have hts : ∀ w ∈ lw_g, w.before (as.map (xz z)).toArray s = true := fun w h => hts0 w (List.mem_cons_of_mem _ h)
  have hown : s.vm.findClass y.cls = some m.cls := findClass_of_methodNamed B.named
  have hlocks := B.notSynchronized
  subst hsz
  have hD := hD0.self (sz := s.heap.size)
  have hA : ∀ q : Nat, s.heap.size ≤ q → va_A (xq z w) s.heap.size q := fun q h => Or.inr h
  have hSS : va_S (va_A (xq z w) s.heap.size) s.heap s.heap [] := va_S.rf
  have X : xCtx p (xrm d) s m (as.map (xz z)).toArray c b nL y.cls D z L xs (va_A (xq z w) s.heap.size) 0 0 := ⟨hx, hb, hml, hown, hts, hK, hA, hCn, Nat.zero_le _, Nat.zero_le _⟩
  have hri : ∀ pc ls x w2, decode b pc = .ok (.ireturn, 1) → xret rt x (Qp (some (.int x)) w2) → xOK p l e (xrm d) s m (as.map (xz z)).toArray below meth c nL D z (va_A (xq z w) s.heap.size) 0 0 (MQ below (xPost D z w s.heap.size Qp) (as.map (xz z)).toArray s 0 0 (va_A (xq z w) s.heap.size)) pc ls [.int x] w2 := by
    intro pc ls x w2 hd h H locs la hP2 hD2 hS2 hv2
    obtain ⟨ty, rfl, hn, hq⟩ := xret_s h
    exact W.zret hx hb hr hn (fun t ht hW => ⟨⟨some (.int x), w2, rfl, hq, by rw [ht]; exact hP2, va_K.moved hW.alike hK, hD2⟩, hS2.F ht⟩) hS2.2.2 hd
  have hrl : ∀ pc ls x w2, decode b pc = .ok (.lreturn, 1) → rt = some .long → Qp (some (.long x)) w2 → xOK p l e (xrm d) s m (as.map (xz z)).toArray below meth c nL D z (va_A (xq z w) s.heap.size) 0 0 (MQ below (xPost D z w s.heap.size Qp) (as.map (xz z)).toArray s 0 0 (va_A (xq z w) s.heap.size)) pc ls [.long x] w2 := by
    intro pc ls x w2 hd he hq H locs la hP2 hD2 hS2 hv2
    subst he
    exact W.lret hx hb hr (fun t ht hW => ⟨⟨some (.long x), w2, rfl, hq, by rw [ht]; exact hP2, va_K.moved hW.alike hK, hD2⟩, hS2.F ht⟩) hS2.2.2 hd
  have hrv : ∀ pc ls w2, decode b pc = .ok (.return_, 1) → rt = none → Qp none w2 → xOK p l e (xrm d) s m (as.map (xz z)).toArray below meth c nL D z (va_A (xq z w) s.heap.size) 0 0 (MQ below (xPost D z w s.heap.size Qp) (as.map (xz z)).toArray s 0 0 (va_A (xq z w) s.heap.size)) pc ls [] w2 := by
    intro pc ls w2 hd he hq H locs la hP2 hD2 hS2 hv2
    subst he
    exact W.vret hx hb hr (fun t ht hW => ⟨⟨none, w2, rfl, hq, by rw [ht]; exact hP2, va_K.moved hW.alike hK, hD2⟩, hS2.F ht⟩) hS2.2.2 hd
  have hl := lv_entry (as.map (xz z)) (n := nL) (by rw [xwords_s]; exact hle)
  rw [xargs_s] at hl
  rw [lg_entry_eq]
  exact xw_ok X hT hF hKc hG hC hri hrl hrv (fun pc m9 ls st w hc ⟨n, h2⟩ => xw_loop X hT hF hKc hG hC hri hrl hrv fuel h1 n pc m9 ls st w hc h2) fuel 0 _ [] w h0 s.heap [] _ hP hD hSS hl
/-- no loops -/
theorem xmet0 {y : MethodName} {b : ByteArray} {nL : Nat} {rt : Option FieldType} {tb : XT} {fl : XF} {kc : XK} {gs : XH} {cl : XG} {d : Nat} {S : XS} (fuel : Nat) (hy : plainName y.cls = true) (hT : xTok b tb) (hF : xFok y.cls fl) (hKc : xKok y.cls kc) (hG : xGok y.cls gs) (hC : ∀ n v cnt S, cl n = some (v, cnt, S) → xCall y.cls (xrm d) n v cnt S)
    (body : ∀ (L : Nat) (xs : Nat → Int32) (as : List Value) (w : XW) (Qp : Option Value → XW → Prop), S as w Qp → xsum as ≤ nL ∧ xw nL rt L xs tb fl kc gs cl Qp (fun _ => none) (fun _ _ _ _ => False) fuel 0 (xargs 0 as) [] w) : xCT d y b nL rt S := by
  refine xmet hy hT hF hKc hG hC (fun L xs as w Qp h => ?_)
  obtain ⟨h1, h2⟩ := body L xs as w Qp h
  refine ⟨h1, fuel, fun _ => none, fun _ _ _ _ _ => False, ?_, fun n pc m9 ls st w hc _ => (by cases hc)⟩
  have e : (fun (pc : Nat) (ls : XL) (st : List Value) (w : XW) => ∃ n : Nat, (fun (_ _ : Nat) (_ : XL) (_ : List Value) (_ : XW) => False) n pc ls st w) = (fun _ _ _ _ => False) := by
    funext pc ls st w
    exact propext ⟨fun ⟨_, h⟩ => h, fun h => h.elim⟩
  rw [e]
  exact h2
section XCALL
variable {p : Program} {l : Launch} {e : Env} {R : Room} {s : State} {m : MethodId} {args : Array Value} {below : List Frame} {meth : Method} {c : Code} {nL : Nat} {D : va_G} {z : XZ} {A : Nat → Prop} {cs sl : Nat} {Q : State → Prop} {H : Heap} {locs : List Loc} {pc : Nat} {la : Array Slot} {st0 rest : List Value} {w : XW} {post : Option Value → XW → Prop} {a : Array Value} {ls : XL}
theorem xcallW (hr : va_Run p l e R s m args below meth c H locs cs sl 0 0 (F0 m pc la st0) (rest.map (xz z)) (xPost D z w H.size post a) (va_A (xq z w) H.size)) (hS : va_S A s.heap H locs) (hF : ∀ q, va_A (xq z w) H.size q → A q) (hv : lv_has la nL (ls.map (fun q => (q.1, xz z q.2))))
    (kk : ∀ r w', post r w' → xOK p l e R s m args below meth c nL D z A cs sl Q (pc + 3) ls (r.toList ++ rest) w') : W p l e R s m args below meth c H locs cs sl Q (F0 m pc la st0) := by
  intro T hT X
  obtain ⟨v, st₀, t, T', Lc, h0, X', hL, e1, e2, ⟨⟨r, w', hv2, hq, hP1, hK1, hD1⟩, hz, hk⟩, st⟩ := hr T hT X
  cases hv2
  rw [h0] at hz hk
  obtain ⟨t2, a1, b1⟩ := kk r w' hq T'.heap (locs ++ Lc) la (by rw [e1]; exact hP1) (hD1.weaken (fun k q _ h => hF q.1 h))
    ⟨Nat.le_trans hS.1 (by rw [e1]; exact hz), fun q h1 h2 => by rw [e1, hk q (Nat.lt_of_lt_of_le h1 hS.1) (fun z9 => h2 (hF q z9))]; exact hS.2.1 q h1 h2, fun q hq9 => by
      rcases List.mem_append.mp hq9 with h | h
      · exact hS.2.2 q h
      · exact hF _ (hL q h)⟩ hv T' rfl X'
  refine ⟨t2, st t2 ?_, b1⟩
  have e9 : (r.map (xz z)).toList ++ rest.map (xz z) = (r.toList ++ rest).map (xz z) := by cases r <;> rfl
  rw [e9]
  exact a1
end XCALL
def xrcv (ci : Nat) (S : XS) : XS := fun as w post => match as with
  | .ref q :: _ => (match w[q]? with
    | some (.inr (ci', _)) => (match Nat.beq ci' ci with
      | true => S as w post
      | false => False)
    | _ => False)
  | _ => False
theorem xrcv_s {ci : Nat} {S : XS} {as : List Value} {w : XW} {post : Option Value → XW → Prop} (h : xrcv ci S as w post) : ∃ q as' fs, as = .ref q :: as' ∧ w[q]? = some (.inr (ci, fs)) ∧ S as w post := by
  unfold xrcv at h
  split at h
  · next q as' =>
    split at h
    · next ci2 fs ew =>
      split at h
      · next e1 =>
        cases Nat.eq_of_beq_eq_true e1
        exact ⟨q, as', fs, rfl, ew, h⟩
      · exact h.elim
    · exact h.elim
  · exact h.elim
theorem xblind {av : List Value} {D : va_G} {z : XZ} {L : Nat} {xs : Nat → Int32} {w : XW} {sz : Nat} : FrameBlind (va_Pc av (xPre D z L xs w sz)) := fun a U g mk q => by
  obtain ⟨q0, q1, qP, qK, qD, qC⟩ := q
  exact ⟨q0, q1, qP, va_K.moved (u := U) (U := U.calling g mk a) (Vm.Alike.refl U.vm) qK, qD, xC.go qC (State.WarmedH.refl U) (fun _ _ _ => rfl) (fun _ h => h)⟩
theorem xfree {A : Nat → Prop} {z : XZ} {w : XW} {H0 H : Heap} {locs : List Loc} (hD : va_D A (xq z w)) (hS : va_S A H0 H locs) (hA : ∀ q, H0.size ≤ q → A q) : ∀ q, va_A (xq z w) H.size q → A q := by
  intro q h
  rcases h with ⟨k, e, h⟩ | h
  · exact hD.2 k (q, e) h
  · exact hA q (Nat.le_trans hS.1 h)
theorem xgood_in {y : MethodName} {b : ByteArray} {nL : Nat} {rt : Option FieldType} (hc : Cond.code y b nL rt ∈ lw_g) : GoodIn lw_g (.code y b nL rt :: lw_g) := by
  intro w hw
  have hm : w ∈ lw_g := by
    rcases List.mem_cons.mp hw with h | h
    · rw [h]; exact hc
    · exact h
  exact ⟨hm, good_of_word (lw_g_good w hm)⟩
/-- an instance method of one of ours -/
theorem xcall_V {own : String} {R : Room} {y : MethodName} {b : ByteArray} {nL' : Nat} {rt : Option FieldType} {d : Nat} {S : XS} {ci n cnt : Nat} {T : u_T} {N : Nat} (hM : xCT d y b nL' rt S) (hc : vwCl[ci]? = some (y.cls, T, N)) (w1 : Cond.methodLink own n y ∈ lw_g) (w2 : Cond.instanceMethod y ∈ lw_g) (w3 : Cond.selects y.cls y y ∈ lw_g) (w4 : Cond.initialized y.cls ∈ lw_g) (w5 : Cond.code y b nL' rt ∈ lw_g)
    (hd : y.cls ≠ "java/lang/invoke/MethodHandle" ∧ y.cls ≠ "java/lang/invoke/VarHandle" ∧ (parseMethodDescriptor y.desc).map (fun d => d.parameters.length) = some cnt) (hL : nL' ≤ 21) (hR : d + 1 ≤ R.frames ∧ 40 * d + 40 ≤ R.locals) : xCall own R n true (cnt + 1) (xrcv ci S) := by
  intro p l e s m args below meth c cc nL D z L xs A cs sl Q X as rest w post pc ls hn hsum hS hdg kk H locs la hP hD hSS hv
  obtain ⟨hx, hb, hml, hown, hts, hK, hA, hCn, hcs, hsl⟩ := X
  obtain ⟨q, as', fs, rfl, ew, hS⟩ := xrcv_s hS
  have hF := xfree hD hSS hA
  have hG := xgood_in w5
  have hB : CallB R s args own n y b nL' rt (.code y b nL' rt :: lw_g) (xrm d) 0 0 cnt := callB_of cnt hts hG rfl rfl rfl (hts _ w4) (hts _ w1) hd ⟨hR.1, by have h9 := hR.2; show 8 + (nL' + 11) + 40 * d ≤ R.locals; omega⟩
  have hpre : ∀ U : State, U.heap = H → s.WarmedH U.vm → va_Pc ((Value.ref q :: as').map (xz z)) (xPre D z L xs w H.size) (Value.ref (z.1 q) :: as'.map (xz z)).toArray U := fun U hU hW => ⟨rfl, by rw [hU], by rw [hU]; exact hP, va_K.moved hW.alike hK, hD.weaken (fun _ _ _ _ => trivial), xC.go hCn hW (fun a h1 h2 => by rw [hU]; exact hSS.2.1 a h1 h2) hF⟩
  exact xcallW (va_runV (As := as'.map (xz z)) (rest := rest.map (xz z)) (b := z.1 q) (C := y.cls) ⟨hx, hb, hml, hown, hts⟩ (hM l D z L xs H.size _ w post hS) ⟨hB, hts _ w2, hts _ w3⟩ ⟨xblind, va_recv hK hP hc (xq_at ew), hpre⟩ rfl (by simpa using hn) hv.1 (by show (List.map (xz z) ((Value.ref q :: as').reverse ++ rest)) = _; simp [xz]) (by show 2 * 0 + _ ≤ 8; rw [xsum_s]; omega) hdg ⟨by omega, by omega⟩) hSS hF hv kk
/-- a static method of one of ours, or of the JDK -/
theorem xcall_S {own : String} {R : Room} {y : MethodName} {b : ByteArray} {nL' : Nat} {rt : Option FieldType} {d : Nat} {S : XS} {n cnt : Nat} (hM : xCT d y b nL' rt S) (w1 : Cond.methodLink own n y ∈ lw_g) (w2 : Cond.static y ∈ lw_g) (w4 : Cond.initialized y.cls ∈ lw_g) (w5 : Cond.code y b nL' rt ∈ lw_g)
    (hd : y.cls ≠ "java/lang/invoke/MethodHandle" ∧ y.cls ≠ "java/lang/invoke/VarHandle" ∧ (parseMethodDescriptor y.desc).map (fun d => d.parameters.length) = some cnt) (hL : nL' ≤ 21) (hR : d + 1 ≤ R.frames ∧ 40 * d + 40 ≤ R.locals) : xCall own R n false cnt S := by
  intro p l e s m args below meth c cc nL D z L xs A cs sl Q X as rest w post pc ls hn hsum hS hdg kk H locs la hP hD hSS hv
  obtain ⟨hx, hb, hml, hown, hts, hK, hA, hCn, hcs, hsl⟩ := X
  have hF := xfree hD hSS hA
  have hG := xgood_in w5
  have hB : CallB R s args own n y b nL' rt (.code y b nL' rt :: lw_g) (xrm d) 0 0 cnt := callB_of cnt hts hG rfl rfl rfl (hts _ w4) (hts _ w1) hd ⟨hR.1, by have h9 := hR.2; show 8 + (nL' + 11) + 40 * d ≤ R.locals; omega⟩
  have hpre : ∀ U : State, U.heap = H → s.WarmedH U.vm → va_Pc (as.map (xz z)) (xPre D z L xs w H.size) (as.map (xz z)).toArray U := fun U hU hW => ⟨rfl, by rw [hU], by rw [hU]; exact hP, va_K.moved hW.alike hK, hD.weaken (fun _ _ _ _ => trivial), xC.go hCn hW (fun a h1 h2 => by rw [hU]; exact hSS.2.1 a h1 h2) hF⟩
  exact xcallW (va_runS (As := as.map (xz z)) (rest := rest.map (xz z)) ⟨hx, hb, hml, hown, hts⟩ (hM l D z L xs H.size _ w post hS) ⟨hB, hts _ w2⟩ ⟨xblind, hpre⟩ rfl (by simpa using hn) hv.1 (by show (List.map (xz z) (as.reverse ++ rest)) = _; simp) (by show 2 * 0 + _ ≤ 8; rw [xsum_s]; omega) hdg ⟨by omega, by omega⟩) hSS hF hv kk
def xrcvS (S : XS) : XS := fun as w post => match as with
  | .retAddr q :: _ => (match Nat.ble 3 q, Nat.ble (q + 1) 5 with
    | true, true => S as w post
    | _, _ => False)
  | _ => False
/-- an instance method of a text -/
theorem xcall_VS {own : String} {R : Room} {y : MethodName} {b : ByteArray} {nL' : Nat} {rt : Option FieldType} {d : Nat} {S : XS} {n cnt : Nat} (hM : xCT d y b nL' rt S) (hc : y.cls = "java/lang/String") (w1 : Cond.methodLink own n y ∈ lw_g) (w2 : Cond.instanceMethod y ∈ lw_g) (w3 : Cond.selects y.cls y y ∈ lw_g) (w4 : Cond.initialized y.cls ∈ lw_g) (w5 : Cond.code y b nL' rt ∈ lw_g)
    (hd : y.cls ≠ "java/lang/invoke/MethodHandle" ∧ y.cls ≠ "java/lang/invoke/VarHandle" ∧ (parseMethodDescriptor y.desc).map (fun d => d.parameters.length) = some cnt) (hL : nL' ≤ 21) (hR : d + 1 ≤ R.frames ∧ 40 * d + 40 ≤ R.locals) : xCall own R n true (cnt + 1) (xrcvS S) := by
  intro p l e s m args below meth c cc nL D z L xs A cs sl Q X as rest w post pc ls hn hsum hS hdg kk H locs la hP hD hSS hv
  obtain ⟨hx, hb, hml, hown, hts, hK, hA, hCn, hcs, hsl⟩ := X
  obtain ⟨q, as', rfl, q1, q2, hS⟩ : ∃ q as', as = .retAddr q :: as' ∧ 3 ≤ q ∧ q < 5 ∧ S as w post := by
    unfold xrcvS at hS
    split at hS
    · next q as' =>
      split at hS
      · next e1 e2 => exact ⟨q, as', rfl, Nat.le_of_ble_eq_true e1, Nat.le_of_ble_eq_true e2, hS⟩
      · exact hS.elim
    · exact hS.elim
  have hF := xfree hD hSS hA
  have hG := xgood_in w5
  have hB : CallB R s args own n y b nL' rt (.code y b nL' rt :: lw_g) (xrm d) 0 0 cnt := callB_of cnt hts hG rfl rfl rfl (hts _ w4) (hts _ w1) hd ⟨hR.1, by have h9 := hR.2; show 8 + (nL' + 11) + 40 * d ≤ R.locals; omega⟩
  have hpre : ∀ U : State, U.heap = H → s.WarmedH U.vm → va_Pc ((Value.retAddr q :: as').map (xz z)) (xPre D z L xs w H.size) (Value.ref (z.2.1 q) :: as'.map (xz z)).toArray U := fun U hU hW => ⟨rfl, by rw [hU], by rw [hU]; exact hP, va_K.moved hW.alike hK, hD.weaken (fun _ _ _ _ => trivial), xC.go hCn hW (fun a h1 h2 => by rw [hU]; exact hSS.2.1 a h1 h2) hF⟩
  exact xcallW (va_runV (As := as'.map (xz z)) (rest := rest.map (xz z)) (b := z.2.1 q) (C := y.cls) ⟨hx, hb, hml, hown, hts⟩ (hM l D z L xs H.size _ w post hS) ⟨hB, hts _ w2, hts _ w3⟩ ⟨xblind, by rw [hc]; exact va_Orecv (hCn.2.2.2.2.1 q q1 q2) hSS, hpre⟩ rfl (by simpa using hn) hv.1 (by show (List.map (xz z) ((Value.retAddr q :: as').reverse ++ rest)) = _; simp [xz]) (by show 2 * 0 + _ ≤ 8; rw [xsum_s]; omega) hdg ⟨by omega, by omega⟩) hSS hF hv kk
