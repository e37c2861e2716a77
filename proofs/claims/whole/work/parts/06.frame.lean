/-! ===== the frame: a callee's world is some places of the caller's ===== -/
def xrn (ps : List Nat) : Value → Value
  | .ref k => .ref (ps.getD k 0)
  | v => v
def xre (ps : List Nat) : va_E → va_E
  | .inl (t, n, .inr (.inr (.inr (.inr g)))) => .inl (t, n, .inr (.inr (.inr (.inr (fun i => (g i).map (fun k => ps.getD k 0))))))
  | .inl (t, n, x) => .inl (t, n, x)
  | .inr (ci, fs) => .inr (ci, fs.map (xrn ps))
def xputs : XW → List Nat → List va_E → XW
  | w, p :: ps, e :: es => xputs (w.set p e) ps es
  | w, _, _ => w
def xfr (ps : List Nat) (S : XS) : XS := fun as w post => ∃ (asc : List Value) (wc : XW), as = asc.map (xrn ps) ∧ ps.map (fun i => w[i]?) = wc.map (fun e => some (xre ps e)) ∧ va_nd ps = true ∧ S asc wc (fun r wc' => match Nat.beq wc'.length ps.length with
  | true => post (r.map (xrn ps)) (xputs w ps (wc'.map (xre ps)))
  | false => False)
theorem xputs_len : ∀ (ps : List Nat) (es : List va_E) (w : XW), (xputs w ps es).length = w.length
  | [], _, _ => by simp [xputs]
  | _ :: _, [], _ => by simp [xputs]
  | p :: ps, e :: es, w => by rw [xputs, xputs_len ps es, List.length_set]
theorem xputs_out : ∀ (ps : List Nat) (es : List va_E) (w : XW) (k : Nat), k ∉ ps → (xputs w ps es)[k]? = w[k]?
  | [], _, _, _, _ => by simp [xputs]
  | _ :: _, [], _, _, _ => by simp [xputs]
  | p :: ps, e :: es, w, k, h => by
    rw [xputs, xputs_out ps es _ k (fun q => h (List.mem_cons_of_mem _ q)), List.getElem?_set_ne (fun q => h (by rw [q]; exact List.mem_cons_self))]
theorem xputs_in : ∀ (ps : List Nat) (es : List va_E) (w : XW) (j p : Nat) (e : va_E), va_nd ps = true → ps[j]? = some p → es[j]? = some e → p < w.length → (xputs w ps es)[p]? = some e
  | [], _, _, _, _, _, _, h, _, _ => by simp at h
  | _ :: _, [], _, _, _, _, _, _, h, _ => by simp at h
  | p0 :: ps, e0 :: es, w, 0, p, e, hn, h1, h2, hl => by
    cases h1
    cases h2
    have hn0 : p0 ∉ ps := by
      have h9 := hn
      unfold va_nd at h9
      simp only [Bool.and_eq_true, decide_eq_true_eq] at h9
      exact h9.1
    rw [xputs, xputs_out ps es _ p0 hn0, List.getElem?_set_self hl]
  | p0 :: ps, e0 :: es, w, j + 1, p, e, hn, h1, h2, hl => by
    rw [xputs]
    refine xputs_in ps es _ j p e ?_ h1 h2 (by rw [List.length_set]; exact hl)
    unfold va_nd at hn
    simp only [Bool.and_eq_true, decide_eq_true_eq] at hn
    exact hn.2
theorem xrn_z (z : XZ) (ps : List Nat) (v : Value) : xz z (xrn ps v) = xz (fun k => z.1 (ps.getD k 0), z.2) v := by cases v <;> rfl
theorem xre_z (z : XZ) (ps : List Nat) (e : va_E) : xe z (xre ps e) = xe (fun k => z.1 (ps.getD k 0), z.2) e := by
  rcases e with ⟨t, n, f | f | f | f | g⟩ | ⟨ci, fs⟩
  · rfl
  · rfl
  · rfl
  · rfl
  · show (Sum.inl (z.2.2 t, n, .inr (.inr (.inr (.inr (fun i => ((g i).map (fun k => ps.getD k 0)).map z.1))))) : va_E) = Sum.inl (z.2.2 t, n, .inr (.inr (.inr (.inr (fun i => (g i).map (fun k => z.1 (ps.getD k 0)))))))
    have e : (fun i => ((g i).map (fun k => ps.getD k 0)).map z.1) = (fun i => (g i).map (fun k => z.1 (ps.getD k 0))) := by
      funext i
      cases g i <;> rfl
    rw [e]
  · show (Sum.inr (ci, (fs.map (xrn ps)).map (xz z)) : va_E) = Sum.inr (ci, fs.map (xz (fun k => z.1 (ps.getD k 0), z.2)))
    rw [List.map_map]
    congr 2
    exact List.map_congr_left (fun v _ => xrn_z z ps v)
theorem xq_len (z : XZ) (w : XW) : (xq z w).length = w.length := by unfold xq; rw [List.length_mapIdx]
theorem xq_inv {z : XZ} {w : XW} {k : Nat} {q : Nat × va_E} (h : (xq z w)[k]? = some q) : ∃ e, w[k]? = some e ∧ q = (z.1 k, xe z e) := by
  rw [xq_get] at h
  cases hw : w[k]? with
  | none => rw [hw] at h; cases h
  | some e =>
    rw [hw] at h
    cases h
    exact ⟨e, rfl, rfl⟩
theorem xCT_fr {d : Nat} {y : MethodName} {b : ByteArray} {nL : Nat} {rt : Option FieldType} {S : XS} (hM : xCT d y b nL rt S) (ps : List Nat) : xCT d y b nL rt (xfr ps S) := by
  intro l D z L xs sz as w Qp ⟨asc, wc, has, hwc, hnd, hS⟩
  have hM' := hM l D (fun k => z.1 (ps.getD k 0), z.2) L xs sz asc wc _ hS
  generalize hz' : ((fun k => z.1 (ps.getD k 0), z.2) : XZ) = z' at hM'
  have hz2 : z'.2 = z.2 := by rw [← hz']
  have hz1 : ∀ k, z'.1 k = z.1 (ps.getD k 0) := fun k => by rw [← hz']
  have hxz : ∀ v, xz z (xrn ps v) = xz z' v := fun v => by rw [← hz']; exact xrn_z z ps v
  have hxe : ∀ e, xe z (xre ps e) = xe z' e := fun e => by rw [← hz']; exact xre_z z ps e
  have hcell : ∀ (j : Nat) (e : va_E), wc[j]? = some e → ∃ k, ps[j]? = some k ∧ w[k]? = some (xre ps e) ∧ z'.1 j = z.1 k := by
    intro j e he
    have h1 : (ps.map (fun i => w[i]?))[j]? = some (some (xre ps e)) := by rw [hwc, List.getElem?_map, he]; rfl
    rw [List.getElem?_map] at h1
    cases hk : ps[j]? with
    | none => rw [hk] at h1; cases h1
    | some k =>
      rw [hk] at h1
      refine ⟨k, rfl, Option.some.inj h1, ?_⟩
      rw [hz1, List.getD_eq_getElem?_getD, hk]
      rfl
  have hat : ∀ (j : Nat) (q : Nat × va_E), (xq z' wc)[j]? = some q → ∃ k, ps[j]? = some k ∧ (xq z w)[k]? = some q := by
    intro j q hq
    obtain ⟨e, he, rfl⟩ := xq_inv hq
    obtain ⟨k, h1, h2, h3⟩ := hcell j e he
    refine ⟨k, h1, ?_⟩
    rw [xq_at h2, hxe, h3]
  have hsub : ∀ q, va_A (xq z' wc) sz q → va_A (xq z w) sz q := by
    intro q h
    rcases h with ⟨j, e, h⟩ | h
    · obtain ⟨k, -, h2⟩ := hat j (q, e) h
      exact Or.inl ⟨k, e, h2⟩
    · exact Or.inr h
  refine MetFree.mono hM' ?_ (fun _ _ _ _ _ h => h) ?_
  · rintro a s ⟨h1, h2, h3, h4, h5, h6⟩
    refine ⟨?_, h2, fun j q hq => ?_, ?_, ⟨fun i j x y hi hj hxy => ?_, fun _ _ _ => trivial⟩, ?_⟩
    · rw [h1, has, List.map_map]
      congr 1
      exact List.map_congr_left (fun v _ => hxz v)
    · obtain ⟨k, -, h9⟩ := hat j q hq
      exact h3 k q h9
    · have e : xt z' = xt z := by simp only [xt, hz2]
      rw [e]
      exact h4
    · obtain ⟨k1, p1, g1⟩ := hat i x hi
      obtain ⟨k2, p2, g2⟩ := hat j y hj
      have h9 := h5.1 k1 k2 x y g1 g2 hxy
      subst h9
      exact va_nd_inj ps hnd i j k1 p1 p2
    · have h7 := xC.go h6 (State.WarmedH.refl s) (fun _ _ _ => rfl) hsub
      unfold xC at h7 ⊢
      rw [hz2]
      exact h7
  · rintro a s o t ⟨h1, h2, h3, h4, h5, h6⟩ ⟨⟨⟨r, wc', ho, hq, hP1, hK1, hD1⟩, hF1, hF2⟩, L9, hL1, hL2⟩
    refine ⟨⟨?_, hF1, fun q g1 g2 => hF2 q g1 (fun g3 => g2 (hsub q g3))⟩, L9, hL1, fun q hq => hsub _ (hL2 q hq)⟩
    cases hb : Nat.beq wc'.length ps.length with
    | false => rw [hb] at hq; exact hq.elim
    | true =>
      rw [hb] at hq
      have hlen : wc'.length = ps.length := Nat.eq_of_beq_eq_true hb
      have hex : ∀ (k : Nat) (e : va_E), (xputs w ps (wc'.map (xre ps)))[k]? = some e → ∃ e0, w[k]? = some e0 := by
        intro k e he
        have h9 : k < (xputs w ps (wc'.map (xre ps))).length := (List.getElem?_eq_some_iff.mp he).1
        rw [xputs_len] at h9
        exact ⟨w[k], List.getElem?_eq_getElem h9⟩
      refine ⟨r.map (xrn ps), xputs w ps (wc'.map (xre ps)), ?_, hq, ?_, ?_, ?_⟩
      · rw [ho]
        cases r with
        | none => rfl
        | some v => exact congrArg (fun x => Outcome.returned (some x)) (hxz v).symm
      · intro k q hk
        obtain ⟨e, he, rfl⟩ := xq_inv hk
        obtain ⟨e0, he0⟩ := hex k e he
        by_cases hin : k ∈ ps
        · obtain ⟨j, hj⟩ := List.getElem?_of_mem hin
          have hjl : j < wc'.length := by rw [hlen]; exact (List.getElem?_eq_some_iff.mp hj).1
          have hw9 : wc'[j]? = some wc'[j] := List.getElem?_eq_getElem hjl
          have h9 := xputs_in ps (wc'.map (xre ps)) w j k (xre ps wc'[j]) hnd hj (by rw [List.getElem?_map, hw9]; rfl) (List.getElem?_eq_some_iff.mp he0).1
          rw [h9] at he
          cases he
          have g := hP1 j _ (xq_at hw9)
          rw [hxe]
          have e1 : z'.1 j = z.1 k := by
            rw [hz1, List.getD_eq_getElem?_getD, hj]
            rfl
          rw [← e1]
          exact g
        · rw [xputs_out ps _ w k hin] at he
          have g := h3 k _ (xq_at he)
          refine g.kept (hF2 (z.1 k) g.lt (fun g2 => ?_))
          rcases g2 with ⟨j, e9, g2⟩ | g2
          · obtain ⟨k2, p2, g3⟩ := hat j (z.1 k, e9) g2
            have h9 := h5.1 k k2 _ _ (xq_at he) g3 rfl
            subst h9
            exact hin (List.mem_of_getElem? p2)
          · have := g.lt
            rw [h2] at this
            exact absurd g2 (Nat.not_le.mpr this)
      · have e : xt z' = xt z := by simp only [xt, hz2]
        rw [← e]
        exact hK1
      · refine ⟨fun i j x y hi hj hxy => ?_, fun k q hk => ?_⟩
        · obtain ⟨e1, he1, rfl⟩ := xq_inv hi
          obtain ⟨e2, he2, rfl⟩ := xq_inv hj
          obtain ⟨e3, he3⟩ := hex i e1 he1
          obtain ⟨e4, he4⟩ := hex j e2 he2
          exact h5.1 i j _ _ (xq_at he3) (xq_at he4) hxy
        · obtain ⟨e1, he1, rfl⟩ := xq_inv hk
          obtain ⟨e3, he3⟩ := hex k e1 he1
          exact Or.inl ⟨k, _, xq_at he3⟩
/-- a contract serves a weaker one -/
theorem xCT_mono {d : Nat} {y : MethodName} {b : ByteArray} {nL : Nat} {rt : Option FieldType} {S S' : XS} (hM : xCT d y b nL rt S) (h : ∀ as w Qp, S' as w Qp → S as w Qp) : xCT d y b nL rt S' := fun l D z L xs sz as w Qp hS => hM l D z L xs sz as w Qp (h as w Qp hS)
/-! ===== Math.max, Math.min, System.arraycopy ===== -/
def xMax : XS := fun as w post => match as with
  | [.int x, .int y] => post (some (.int (if x < y then y else x))) w
  | _ => False
def xMin : XS := fun as w post => match as with
  | [.int x, .int y] => post (some (.int (if y < x then y else x))) w
  | _ => False
def xCpy : XS := fun as w post => match as with
  | [.ref q0, .int sp, .ref q1, .int dp, .int n] => (match w[q0]?, w[q1]? with
    | some (.inl (0, n0, .inl f)), some (.inl (0, n1, .inl g)) => (¬ sp < 0 ∧ ¬ dp < 0 ∧ ¬ n < 0 ∧ sp.toNatClampNeg + n.toNatClampNeg ≤ n0 ∧ dp.toNatClampNeg + n.toNatClampNeg ≤ n1) ∧ post none (w.set q1 (.inl (0, n1, .inl (va_cpy f g sp.toNatClampNeg dp.toNatClampNeg n.toNatClampNeg))))
    | some (.inl (1, n0, .inl f)), some (.inl (1, n1, .inl g)) => (¬ sp < 0 ∧ ¬ dp < 0 ∧ ¬ n < 0 ∧ sp.toNatClampNeg + n.toNatClampNeg ≤ n0 ∧ dp.toNatClampNeg + n.toNatClampNeg ≤ n1 ∧ ∀ i, i < n.toNatClampNeg → fits .byte (.int (f (sp.toNatClampNeg + i))) = true) ∧ post none (w.set q1 (.inl (1, n1, .inl (va_cpy f g sp.toNatClampNeg dp.toNatClampNeg n.toNatClampNeg))))
    | _, _ => False)
  | _ => False
theorem xcall_max {own : String} {R : Room} {n : Nat} (w1 : Cond.methodLink own n Lib.Math.max.name ∈ lw_g) (w2 : Cond.static Lib.Math.max.name ∈ lw_g) (w3 : Cond.initialized "java/lang/Math" ∈ lw_g) (w4 : Cond.code Lib.Math.max.name Lib.Math.max.code 2 (some .int) ∈ lw_g) (hR : 1 ≤ R.frames ∧ 40 ≤ R.locals) : xCall own R n false 2 xMax := by
  intro p l e s m args below meth c cc nL D z L xs A cs sl Q X as rest w post pc ls hn hsum hS hdg kk H locs la hP hD hSS hv
  obtain ⟨hx, hb, hml, hown, hts, hK, hA, hCn, hcs, hsl⟩ := X
  unfold xMax at hS
  split at hS
  · next x y =>
    have hk := kk _ _ hS H locs la hP hD hSS hv
    have hq : ((rest.map (xz z)).map fun v => v.category).sum + 13 ≤ R.locals := by
      rw [xsum_s]
      have := hR.2
      omega
    exact va_mmax hx hb (hml.trans hv.1.symm) hown (hts _ w1) (hts _ w2) (hts _ w3) (hts _ w4) hR.1 hq hcs hsl hdg hk
  · exact hS.elim
theorem xcall_min {own : String} {R : Room} {n : Nat} (w1 : Cond.methodLink own n Lib.Math.min.name ∈ lw_g) (w2 : Cond.static Lib.Math.min.name ∈ lw_g) (w3 : Cond.initialized "java/lang/Math" ∈ lw_g) (w4 : Cond.code Lib.Math.min.name Lib.Math.min.code 2 (some .int) ∈ lw_g) (hR : 1 ≤ R.frames ∧ 40 ≤ R.locals) : xCall own R n false 2 xMin := by
  intro p l e s m args below meth c cc nL D z L xs A cs sl Q X as rest w post pc ls hn hsum hS hdg kk H locs la hP hD hSS hv
  obtain ⟨hx, hb, hml, hown, hts, hK, hA, hCn, hcs, hsl⟩ := X
  unfold xMin at hS
  split at hS
  · next x y =>
    have hk := kk _ _ hS H locs la hP hD hSS hv
    have hq : ((rest.map (xz z)).map fun v => v.category).sum + 13 ≤ R.locals := by
      rw [xsum_s]
      have := hR.2
      omega
    exact va_mmin hx hb (hml.trans hv.1.symm) hown (hts _ w1) (hts _ w2) (hts _ w3) (hts _ w4) hR.1 hq hcs hsl hdg hk
  · exact hS.elim
theorem xcall_copy {own : String} {R : Room} {n : Nat} (w1 : Cond.methodLink own n arraycopyName ∈ lw_g) (w2 : Cond.native arraycopyName ∈ lw_g) (w3 : Cond.static arraycopyName ∈ lw_g) (w4 : Cond.initialized "java/lang/System" ∈ lw_g) (hR : 1 ≤ R.frames ∧ 40 ≤ R.locals) : xCall own R n false 5 xCpy := by
  intro p l e s m args below meth c cc nL D z L xs A cs sl Q X as rest w post pc ls hn hsum hS hdg kk H locs la hP hD hSS hv
  obtain ⟨hx, hb, hml, hown, hts, hK, hA, hCn, hcs, hsl⟩ := X
  have hq : ((rest.map (xz z)).map fun v => v.category).sum + (nativeFrameWords "java/lang/System" "arraycopy" 5 + 11) ≤ R.locals := by
    rw [xsum_s]
    have h8 := hR.2
    have e9 : nativeFrameWords "java/lang/System" "arraycopy" 5 ≤ 21 := by decide +kernel
    omega
  unfold xCpy at hS
  split at hS
  · next q0 sp q1 dp k =>
    split at hS
    · next n0 f n1 g e0 e1 =>
      obtain ⟨⟨h1, h2, h3, h4, h5⟩, hS⟩ := hS
      refine va_copyi hx hb (hml.trans hv.1.symm) hown (hts _ w1) (hts _ w2) (hts _ w3) (hts _ w4) hK hP hD hSS q0 q1 0 0 (ty := .int) (xq_at e0) (xq_at e1) rfl rfl rfl h1 h2 h3 h4 h5 (fun _ _ => rfl) hR.1 hq hdg (fun H1 locs1 hP1 hD1 hS1 => ?_)
      have e3 : (xq z w).set q1 (z.1 q1, .inl (z.2.2 0, n1, .inl (va_cpy f g sp.toNatClampNeg dp.toNatClampNeg k.toNatClampNeg))) = xq z (w.set q1 (.inl (0, n1, .inl (va_cpy f g sp.toNatClampNeg dp.toNatClampNeg k.toNatClampNeg)))) := by
        rw [← xq_set]
        rfl
      rw [e3] at hP1 hD1
      exact kk _ _ hS H1 locs1 la hP1 hD1 hS1 hv
    · next n0 f n1 g e0 e1 =>
      obtain ⟨⟨h1, h2, h3, h4, h5, h6⟩, hS⟩ := hS
      refine va_copyi hx hb (hml.trans hv.1.symm) hown (hts _ w1) (hts _ w2) (hts _ w3) (hts _ w4) hK hP hD hSS q0 q1 1 1 (ty := .byte) (xq_at e0) (xq_at e1) rfl rfl rfl h1 h2 h3 h4 h5 h6 hR.1 hq hdg (fun H1 locs1 hP1 hD1 hS1 => ?_)
      have e3 : (xq z w).set q1 (z.1 q1, .inl (z.2.2 1, n1, .inl (va_cpy f g sp.toNatClampNeg dp.toNatClampNeg k.toNatClampNeg))) = xq z (w.set q1 (.inl (1, n1, .inl (va_cpy f g sp.toNatClampNeg dp.toNatClampNeg k.toNatClampNeg)))) := by
        rw [← xq_set]
        rfl
      rw [e3] at hP1 hD1
      exact kk _ _ hS H1 locs1 la hP1 hD1 hS1 hv
    · exact hS.elim
  · exact hS.elim
