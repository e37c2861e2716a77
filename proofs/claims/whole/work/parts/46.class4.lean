/-! ===== the class: the choir ===== -/
def CH (A : XA) (F : Nat → Int32) : XW := [.inr (1, [.ref 1, .ref 2, .ref 3, .ref 4, .ref 5, .ref 6, .ref 7, .ref 8, .ref 9, .ref 10, .ref 14, .int (F 11), .int (F 12), .int (F 13), .int (F 14), .int (F 15), .int (F 16)]), .inl (0, 8, .inl (A 1)), .inl (0, 8, .inl (A 2)), .inl (0, 8, .inl (A 3)), .inl (0, 8, .inl (A 4)), .inl (0, 8, .inl (A 5)), .inl (0, 8, .inl (A 6)), .inl (0, 8, .inl (A 7)), .inl (1, 50, .inl (A 8)), .inl (0, 20, .inl (A 9)), .inr (2, [.ref 11, .ref 12, .ref 13, .int (F 20)]), .inl (0, 50, .inl (A 11)), .inl (0, 50, .inl (A 12)), .inl (0, 4, .inl (A 13)), .inr (2, [.ref 15, .ref 16, .ref 17, .int (F 21)]), .inl (0, 50, .inl (A 15)), .inl (0, 50, .inl (A 16)), .inl (0, 4, .inl (A 17))]
def sX1_has : XS := fun as w post => ∃ (A : XA) (F : Nat → Int32) (s : Int32) (k : Nat), as = [.ref 0, .int s] ∧ w = CH A F ∧ F 12 = nI k ∧ k ≤ 8 ∧ (∀ i, i < k → s = nI i → post (some (.int 1)) w) ∧ ((∀ i, i < k → s ≠ nI i) → post (some (.int 0)) w)
set_option maxRecDepth 10000 in
set_option maxHeartbeats 1000000 in
theorem mX1_has (d : Nat) (hd : 0 ≤ d) : xCT d yX1_has cX1_has 2 (some .boolean) sX1_has := by
  refine xmet0 (tb := tX1_has) (fl := fX1) (kc := nX1) (gs := g0) (cl := xlk []) 400 (by decide) tX1_has_ok fX1_ok nX1_ok g0_ok xg_nil ?_
  rintro L xs as w Qp ⟨A, F, s, k, rfl, rfl, hk, hk8, h1, h2⟩
  refine ⟨Nat.le_of_ble_eq_true rfl, ?_⟩
  refine And.intro (fun g => ?_) (fun g => ?_)
  · have g : s < 0 := g
    refine ⟨rfl, h2 (fun i hi e => ?_)⟩
    rw [e] at g
    exact nI_pos (by omega) g
  · have g : ¬ s < 0 := g
    obtain ⟨j, hj, e⟩ := nI_of g
    subst e
    refine And.intro (fun g2 => ?_) (fun g2 => ?_)
    · have := ge_n hk (by omega) hj g2
      refine ⟨rfl, h2 (fun i hi e => ?_)⟩
      have := nI_inj hj (by omega) e
      omega
    · have hlt := nge_n hk (by omega) hj g2
      exact ⟨rfl, h1 j hlt rfl⟩
def sX1_draw : XS := fun as w post => ∃ (A : XA) (F : Nat → Int32), as = [.ref 0] ∧ w = CH A F ∧ post (some (.int (drO (dr1 (F 14))))) (CH A (fset F 14 (dr1 (F 14))))
set_option maxRecDepth 10000 in
set_option maxHeartbeats 1000000 in
theorem mX1_draw (d : Nat) (hd : 0 ≤ d) : xCT d yX1_draw cX1_draw 1 (some .int) sX1_draw := by
  refine xmet0 (tb := tX1_draw) (fl := fX1) (kc := nX1) (gs := g0) (cl := xlk []) 400 (by decide) tX1_draw_ok fX1_ok nX1_ok g0_ok xg_nil ?_
  rintro L xs as w Qp ⟨A, F, rfl, rfl, h⟩
  exact ⟨Nat.le_of_ble_eq_true rfl, h⟩
def sX1_wishing : XS := fun as w post => ∃ (A : XA) (F : Nat → Int32) (k : Nat), as = [.ref 0] ∧ w = CH A F ∧ F 12 = nI k ∧ k ≤ 8 ∧ post (some (.int (nI (cntP (fun i => 0 ≤ A 4 i) k)))) w
set_option maxRecDepth 10000 in
set_option maxHeartbeats 1000000 in
theorem mX1_wishing (d : Nat) (hd : 0 ≤ d) : xCT d yX1_wishing cX1_wishing 3 (some .int) sX1_wishing := by
  refine xmet (tb := tX1_wishing) (fl := fX1) (kc := nX1) (gs := g0) (cl := xlk []) (by decide) tX1_wishing_ok fX1_ok nX1_ok g0_ok xg_nil ?_
  rintro L xs as w Qp ⟨A, F, k, rfl, rfl, hk, hk8, h⟩
  refine ⟨Nat.le_of_ble_eq_true rfl, 400, xlk [(4, 3)], fun m pc ls st w => pc = 4 ∧ st = [] ∧ ∃ s, s ≤ k ∧ m = k - s ∧ ls = [(0, .ref 0), (1, .int (nI (cntP (fun i => 0 ≤ A 4 i) s))), (2, .int (nI s))] ∧ w = CH A F, ?_, ?_⟩
  · exact ⟨k, rfl, rfl, 0, Nat.zero_le _, rfl, rfl, rfl⟩
  · rintro m pc m9 ls st w hc ⟨rfl, rfl, s, hs, rfl, rfl, rfl⟩
    refine And.intro (fun g => ?_) (fun g => ?_)
    · have := ge_n hk (by omega) (by omega) g
      rw [show s = k by omega]
      exact h
    · have hlt := nge_n hk (by omega) (by omega) g
      refine And.intro (vp_in_nI (by omega) (by decide)) ?_
      refine And.intro (fun g2 => ?_) (fun g2 => ?_)
      · have g2 : A 4 (nI s).toNatClampNeg < 0 := g2
        rw [cl (by omega)] at g2
        have e : cntP (fun i => 0 ≤ A 4 i) (s + 1) = cntP (fun i => 0 ≤ A 4 i) s := cif_f (fa_of_lt g2).2.1
        refine ⟨k - (s + 1), by omega, rfl, rfl, s + 1, hlt, rfl, ?_, rfl⟩
        rw [e, ← nI_1]
        rfl
      · have g2 : ¬ A 4 (nI s).toNatClampNeg < 0 := g2
        rw [cl (by omega)] at g2
        have e : cntP (fun i => 0 ≤ A 4 i) (s + 1) = cntP (fun i => 0 ≤ A 4 i) s + 1 := cif_t (fa_of_nlt g2)
        refine ⟨k - (s + 1), by omega, rfl, rfl, s + 1, hlt, rfl, ?_, rfl⟩
        rw [e, ← nI_1, ← nI_1]
        rfl
def sX1_stateOf : XS := fun as w post => ∃ (A : XA) (F : Nat → Int32) (f : Nat → Int32) (r k : Nat), as = [.ref 0, .ref r] ∧ ((r = 3 ∧ w = CH A F ∧ f = A 3) ∨ (r = 18 ∧ w = CH A F ++ [.inl (0, 8, .inl f)])) ∧ F 12 = nI k ∧ k ≤ 8 ∧ post (some (.int (numF (F 11) f k 0))) w
set_option maxRecDepth 10000 in
set_option maxHeartbeats 1000000 in
theorem mX1_stateOf (d : Nat) (hd : 0 ≤ d) : xCT d yX1_stateOf cX1_stateOf 4 (some .int) sX1_stateOf := by
  refine xmet (tb := tX1_stateOf) (fl := fX1) (kc := nX1) (gs := g0) (cl := xlk []) (by decide) tX1_stateOf_ok fX1_ok nX1_ok g0_ok xg_nil ?_
  rintro L xs as w Qp ⟨A, F, f, r, k, rfl, hw, hk, hk8, h⟩
  rcases hw with ⟨rfl, rfl, rfl⟩ | ⟨rfl, rfl⟩
  · refine ⟨Nat.le_of_ble_eq_true rfl, 400, xlk [(9, 4)], fun m pc ls st w => pc = 9 ∧ st = [] ∧ ∃ s v, s ≤ k ∧ m = s ∧ ls = [(0, .ref 0), (1, .ref 3), (2, .int v), (3, .int (nI s - 1))] ∧ w = CH A F ∧ numF (F 11) (A 3) s v = numF (F 11) (A 3) k 0, ?_, ?_⟩
    · exact ⟨k, rfl, rfl, k, 0, Nat.le_refl _, rfl, by rw [← hk]; rfl, rfl, rfl⟩
    · rintro m pc m9 ls st w hc ⟨rfl, rfl, s, v, hs, hm, rfl, rfl, hv⟩
      refine And.intro (fun g => ?_) (fun g => ?_)
      · have g : nI s - 1 < 0 := g
        rcases Nat.eq_zero_or_pos s with q | q
        · subst q
          have hv : v = numF (F 11) (A 3) k 0 := hv
          rw [← hv] at h
          exact h
        · obtain ⟨t, rfl⟩ : ∃ t, s = t + 1 := ⟨s - 1, by omega⟩
          rw [nI_pred] at g
          exact absurd g (nI_pos (by omega))
      · have g : ¬ nI s - 1 < 0 := g
        have hs0 : 0 < s := by
          rcases Nat.eq_zero_or_pos s with q | q
          · subst q
            exact absurd (by decide) g
          · exact q
        obtain ⟨t, rfl⟩ : ∃ t, s = t + 1 := ⟨s - 1, by omega⟩
        rw [nI_pred]
        refine And.intro (vp_in_nI (by omega) (by decide)) ?_
        refine ⟨t, by omega, rfl, rfl, t, v * F 11 + A 3 (nI t).toNatClampNeg, by omega, rfl, by rw [Int32.sub_eq_add_neg]; rfl, rfl, ?_⟩
        rw [cl (by omega), Int32.mul_comm]
        exact hv
  · refine ⟨Nat.le_of_ble_eq_true rfl, 400, xlk [(9, 4)], fun m pc ls st w => pc = 9 ∧ st = [] ∧ ∃ s v, s ≤ k ∧ m = s ∧ ls = [(0, .ref 0), (1, .ref 18), (2, .int v), (3, .int (nI s - 1))] ∧ w = CH A F ++ [.inl (0, 8, .inl f)] ∧ numF (F 11) f s v = numF (F 11) f k 0, ?_, ?_⟩
    · exact ⟨k, rfl, rfl, k, 0, Nat.le_refl _, rfl, by rw [← hk]; rfl, rfl, rfl⟩
    · rintro m pc m9 ls st w hc ⟨rfl, rfl, s, v, hs, hm, rfl, rfl, hv⟩
      refine And.intro (fun g => ?_) (fun g => ?_)
      · have g : nI s - 1 < 0 := g
        rcases Nat.eq_zero_or_pos s with q | q
        · subst q
          have hv : v = numF (F 11) f k 0 := hv
          rw [← hv] at h
          exact h
        · obtain ⟨t, rfl⟩ : ∃ t, s = t + 1 := ⟨s - 1, by omega⟩
          rw [nI_pred] at g
          exact absurd g (nI_pos (by omega))
      · have g : ¬ nI s - 1 < 0 := g
        have hs0 : 0 < s := by
          rcases Nat.eq_zero_or_pos s with q | q
          · subst q
            exact absurd (by decide) g
          · exact q
        obtain ⟨t, rfl⟩ : ∃ t, s = t + 1 := ⟨s - 1, by omega⟩
        rw [nI_pred]
        refine And.intro (vp_in_nI (by omega) (by decide)) ?_
        refine ⟨t, by omega, rfl, rfl, t, v * F 11 + f (nI t).toNatClampNeg, by omega, rfl, by rw [Int32.sub_eq_add_neg]; rfl, rfl, ?_⟩
        rw [cl (by omega), Int32.mul_comm]
        exact hv
