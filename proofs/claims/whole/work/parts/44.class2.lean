/-! ===== the class: laws ===== -/
def LW (p s n : Nat → Int32) (z : Int32) : XW := [.inr (2, [.ref 1, .ref 2, .ref 3, .int z]), .inl (0, 50, .inl p), .inl (0, 50, .inl s), .inl (0, 4, .inl n)]
def sX2_isMissing : XS := fun as w post => ∃ (p s n : Nat → Int32) (z : Int32), as = [.ref 0] ∧ w = LW p s n z ∧ (z = 0 → post (some (.int 1)) w) ∧ (¬ z = 0 → post (some (.int 0)) w)
set_option maxRecDepth 10000 in
set_option maxHeartbeats 1000000 in
theorem mX2_isMissing (d : Nat) (hd : 0 ≤ d) : xCT d yX2_isMissing cX2_isMissing 1 (some .boolean) sX2_isMissing := by
  refine xmet0 (tb := tX2_isMissing) (fl := fX2) (kc := nX2) (gs := g0) (cl := xlk []) 400 (by decide) tX2_isMissing_ok fX2_ok nX2_ok g0_ok xg_nil ?_
  rintro L xs as w Qp ⟨p, s, n, z, rfl, rfl, h1, h2⟩
  refine ⟨Nat.le_of_ble_eq_true rfl, ?_⟩
  refine And.intro (fun g => ?_) (fun g => ?_)
  · exact ⟨rfl, h2 g⟩
  · exact ⟨rfl, h1 (Classical.byContradiction g)⟩
def sX2_clear : XS := fun as w post => ∃ (p s n : Nat → Int32) (z : Int32), as = [.ref 0] ∧ w = LW p s n z ∧ post none (LW p s n 0)
set_option maxRecDepth 10000 in
set_option maxHeartbeats 1000000 in
theorem mX2_clear (d : Nat) (hd : 0 ≤ d) : xCT d yX2_clear cX2_clear 1 none sX2_clear := by
  refine xmet0 (tb := tX2_clear) (fl := fX2) (kc := nX2) (gs := g0) (cl := xlk []) 400 (by decide) tX2_clear_ok fX2_ok nX2_ok g0_ok xg_nil ?_
  rintro L xs as w Qp ⟨p, s, n, z, rfl, rfl, h⟩
  exact ⟨Nat.le_of_ble_eq_true rfl, h⟩
def sX2_add : XS := fun as w post => ∃ (p s n : Nat → Int32) (z : Nat) (x : Int32), as = [.ref 0, .int x] ∧ w = LW p s n (nI z) ∧ z ≤ 50 ∧ (z < 50 → post none (LW (upd p z x) s n (nI (z + 1)))) ∧ (¬ z < 50 → post none (LW p s n (nI z)))
set_option maxRecDepth 10000 in
set_option maxHeartbeats 1000000 in
theorem mX2_add (d : Nat) (hd : 0 ≤ d) : xCT d yX2_add cX2_add 2 none sX2_add := by
  refine xmet0 (tb := tX2_add) (fl := fX2) (kc := nX2) (gs := g0) (cl := xlk []) 400 (by decide) tX2_add_ok fX2_ok nX2_ok g0_ok xg_nil ?_
  rintro L xs as w Qp ⟨p, s, n, z, x, rfl, rfl, hz, h1, h2⟩
  refine ⟨Nat.le_of_ble_eq_true rfl, ?_⟩
  refine And.intro (fun g => ?_) (fun g => ?_)
  · have := ge_n (x := 50) (k := 50) rfl (by omega) (by omega) g
    exact h2 (by omega)
  · have hlt := nge_n (x := 50) (k := 50) rfl (by omega) (by omega) g
    refine And.intro (vp_in_nI (by omega) (by decide)) ?_
    have h := h1 hlt
    rw [← nI_1] at h
    have e : upd p (nI z).toNatClampNeg x = upd p z x := by rw [cl (by omega)]
    rw [← e] at h
    exact h
def sX2_copyFrom : XS := fun as w post => ∃ (p s n p2 s2 n2 : Nat → Int32) (z z2 : Int32), as = [.ref 0, .ref 4] ∧ w = LW p s n z ++ [.inr (2, [.ref 5, .ref 6, .ref 7, .int z2]), .inl (0, 50, .inl p2), .inl (0, 50, .inl s2), .inl (0, 4, .inl n2)] ∧ post none (LW (cpU p2 p 50) s n z2 ++ [.inr (2, [.ref 5, .ref 6, .ref 7, .int z2]), .inl (0, 50, .inl p2), .inl (0, 50, .inl s2), .inl (0, 4, .inl n2)])
theorem cpy_cpU (f g : Nat → Int32) (n : Nat) : va_cpy f g 0 0 n = cpU f g n := by
  induction n with
  | zero => rw [cpy_0, cpU_0]
  | succ n ih =>
    have e1 := cpy_s f g 0 0 n
    rw [Nat.zero_add] at e1
    rw [← e1, ih, cpU_s]
set_option maxRecDepth 10000 in
set_option maxHeartbeats 1000000 in
theorem mX2_copyFrom (d : Nat) (hd : 1 ≤ d) : xCT d yX2_copyFrom cX2_copyFrom 2 none sX2_copyFrom := by
  obtain ⟨d, rfl⟩ : ∃ e, d = e + 1 := ⟨d - 1, by omega⟩
  refine xmet0 (tb := tX2_copyFrom) (fl := fX2) (kc := nX2) (gs := g0) (cl := xlk [(25, false, 5, xCpy)]) 400 (by decide) tX2_copyFrom_ok fX2_ok nX2_ok g0_ok (xg_cons (k_X2_25_copy (xrm_ok d)) xg_nil) ?_
  rintro L xs as w Qp ⟨p, s, n, p2, s2, n2, z, z2, rfl, rfl, h⟩
  refine ⟨Nat.le_of_ble_eq_true rfl, ?_⟩
  refine And.intro ⟨by decide, by decide, by decide, by decide, by decide⟩ ?_
  have e : va_cpy p2 p 0 0 50 = cpU p2 p 50 := cpy_cpU p2 p 50
  rw [← e] at h
  exact h
theorem jn_124 (x y : Int32) : jn 124 x y = cif (¬ x = 0 ∨ ¬ y = 0) 1 0 := by unfold jn; rw [cif_t rfl]
theorem jn_38 (x y : Int32) : jn 38 x y = cif (¬ x = 0 ∧ ¬ y = 0) 1 0 := by unfold jn; rw [cif_f (by decide), cif_t rfl]
theorem jn_60 (x y : Int32) : jn 60 x y = cif (x < y) 1 0 := by unfold jn; rw [cif_f (by decide), cif_f (by decide), cif_t rfl]
theorem jn_61 (x y : Int32) : jn 61 x y = cif (x = y) 1 0 := by unfold jn; rw [cif_f (by decide), cif_f (by decide), cif_f (by decide), cif_t rfl]
theorem jn_62 (x y : Int32) : jn 62 x y = cif (y < x) 1 0 := by unfold jn; rw [cif_f (by decide), cif_f (by decide), cif_f (by decide), cif_f (by decide), cif_t rfl]
theorem jn_43 (x y : Int32) : jn 43 x y = x + y := by unfold jn; rw [cif_f (by decide), cif_f (by decide), cif_f (by decide), cif_f (by decide), cif_f (by decide), cif_t rfl]
theorem jn_45 (x y : Int32) : jn 45 x y = x - y := by unfold jn; rw [cif_f (by decide), cif_f (by decide), cif_f (by decide), cif_f (by decide), cif_f (by decide), cif_f (by decide), cif_t rfl]
theorem jn_42 (x y : Int32) : jn 42 x y = x * y := by unfold jn; rw [cif_f (by decide), cif_f (by decide), cif_f (by decide), cif_f (by decide), cif_f (by decide), cif_f (by decide), cif_f (by decide), cif_t rfl]
theorem jn_47 (x y : Int32) : jn 47 x y = cif (y = 0) 0 (x / y) := by unfold jn; rw [cif_f (by decide), cif_f (by decide), cif_f (by decide), cif_f (by decide), cif_f (by decide), cif_f (by decide), cif_f (by decide), cif_f (by decide), cif_t rfl]
theorem jn_o {s : Int32} (x y : Int32) (h1 : ¬ s = 124) (h2 : ¬ s = 38) (h3 : ¬ s = 60) (h4 : ¬ s = 61) (h5 : ¬ s = 62) (h6 : ¬ s = 43) (h7 : ¬ s = 45) (h8 : ¬ s = 42) (h9 : ¬ s = 47) : jn s x y = cif (y = 0) 0 (x - x / y * y) := by unfold jn; rw [cif_f h1, cif_f h2, cif_f h3, cif_f h4, cif_f h5, cif_f h6, cif_f h7, cif_f h8, cif_f h9]
def sX2_joined : XS := fun as w post => ∃ (s x y : Int32), as = [.int s, .int x, .int y] ∧ post (some (.int (jn s x y))) w
set_option maxRecDepth 10000 in
set_option maxHeartbeats 1000000 in
theorem mX2_joined (d : Nat) (hd : 0 ≤ d) : xCT d yX2_joined cX2_joined 3 (some .int) sX2_joined := by
  refine xmet0 (tb := tX2_joined) (fl := fX2) (kc := nX2) (gs := g0) (cl := xlk []) 400 (by decide) tX2_joined_ok fX2_ok nX2_ok g0_ok xg_nil ?_
  rintro L xs as w Qp ⟨s, x, y, rfl, h⟩
  have sl : ∀ {v : Nat}, v < 2 ^ 31 → s.toInt = (v : Int) → s = nI v := fun hv e => tI _ hv e
  have sn : ∀ {v : Nat}, ¬ s.toInt = (v : Int) → v < 2 ^ 31 → ¬ s = nI v := fun e hv q => e (by rw [q, nI_toInt hv])
  refine ⟨Nat.le_of_ble_eq_true rfl, ?_⟩
  refine And.intro (fun g => ?_) (fun g38 => And.intro (fun g => ?_) (fun g42 => And.intro (fun g => ?_) (fun g43 => And.intro (fun g => ?_) (fun g45 => And.intro (fun g => ?_) (fun g47 => And.intro (fun g => ?_) (fun g60 => And.intro (fun g => ?_) (fun g61 => And.intro (fun g => ?_) (fun g62 => And.intro (fun g => ?_) (fun g124 => ?_)))))))))
  · have e : s = 38 := sl (v := 38) (by decide) g
    subst e
    rw [jn_38] at h
    refine And.intro (fun g2 => ?_) (fun g2 => ?_)
    · have g2 : x = 0 := g2
      rw [cif_f (fun q => q.1 g2)] at h
      exact h
    · have g2 : ¬ x = 0 := g2
      refine And.intro (fun g3 => ?_) (fun g3 => ?_)
      · have g3 : y = 0 := g3
        rw [cif_f (fun q => q.2 g3)] at h
        exact h
      · have g3 : ¬ y = 0 := g3
        rw [cif_t ⟨g2, g3⟩] at h
        exact h
  · have e : s = 42 := sl (v := 42) (by decide) g
    subst e
    rw [jn_42] at h
    exact h
  · have e : s = 43 := sl (v := 43) (by decide) g
    subst e
    rw [jn_43] at h
    exact h
  · have e : s = 45 := sl (v := 45) (by decide) g
    subst e
    rw [jn_45] at h
    exact h
  · have e : s = 47 := sl (v := 47) (by decide) g
    subst e
    rw [jn_47] at h
    refine And.intro (fun g2 => ?_) (fun g2 => ?_)
    · have g2 : ¬ y = 0 := g2
      rw [cif_f g2] at h
      exact And.intro g2 h
    · have g2 : y = 0 := Classical.byContradiction g2
      rw [cif_t g2] at h
      exact h
  · have e : s = 60 := sl (v := 60) (by decide) g
    subst e
    rw [jn_60] at h
    refine And.intro (fun g2 => ?_) (fun g2 => ?_)
    · have g2 : y ≤ x := g2
      rw [cif_f (fun q => (fa_of_lt q).2.1 g2)] at h
      exact h
    · have g2 : ¬ y ≤ x := g2
      rw [cif_t (fa_of_nle g2)] at h
      exact h
  · have e : s = 61 := sl (v := 61) (by decide) g
    subst e
    rw [jn_61] at h
    refine And.intro (fun g2 => ?_) (fun g2 => ?_)
    · have g2 : ¬ x = y := g2
      rw [cif_f g2] at h
      exact h
    · have g2 : x = y := Classical.byContradiction g2
      rw [cif_t g2] at h
      exact h
  · have e : s = 62 := sl (v := 62) (by decide) g
    subst e
    rw [jn_62] at h
    refine And.intro (fun g2 => ?_) (fun g2 => ?_)
    · have g2 : x ≤ y := g2
      rw [cif_f (fun q => (fa_of_lt q).2.1 g2)] at h
      exact h
    · have g2 : ¬ x ≤ y := g2
      rw [cif_t (fa_of_nle g2)] at h
      exact h
  · have e : s = 124 := sl (v := 124) (by decide) g
    subst e
    rw [jn_124] at h
    refine And.intro (fun g2 => ?_) (fun g2 => ?_)
    · have g2 : ¬ x = 0 := g2
      rw [cif_t (Or.inl g2)] at h
      exact h
    · have g2 : x = 0 := Classical.byContradiction g2
      refine And.intro (fun g3 => ?_) (fun g3 => ?_)
      · have g3 : y = 0 := g3
        rw [cif_f (fun q => q.elim (fun q => q g2) (fun q => q g3))] at h
        exact h
      · have g3 : ¬ y = 0 := g3
        rw [cif_t (Or.inr g3)] at h
        exact h
  · rw [jn_o x y (sn (v := 124) g124 (by decide)) (sn (v := 38) g38 (by decide)) (sn (v := 60) g60 (by decide)) (sn (v := 61) g61 (by decide)) (sn (v := 62) g62 (by decide)) (sn (v := 43) g43 (by decide)) (sn (v := 45) g45 (by decide)) (sn (v := 42) g42 (by decide)) (sn (v := 47) g47 (by decide))] at h
    refine And.intro (fun g2 => ?_) (fun g2 => ?_)
    · have g2 : ¬ y = 0 := g2
      rw [cif_f g2] at h
      exact And.intro g2 h
    · have g2 : y = 0 := Classical.byContradiction g2
      rw [cif_t g2] at h
      exact h
