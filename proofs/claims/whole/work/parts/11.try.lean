/-! ===== a first method ===== -/
def sX10_in : XS := fun as w post => ∃ a b c : Int64, as = [.long a, .long b, .long c] ∧ post (some (.int (if b ≤ a ∧ a ≤ c then 1 else 0))) w
theorem mX10_in (d : Nat) : xCT d yX10_in cX10_in 6 (some .boolean) sX10_in := by
  refine xmet0 (tb := tX10_in) (fl := fX10) (kc := nX10) (gs := g0) (cl := xlk []) 20 (by decide) tX10_in_ok fX10_ok nX10_ok g0_ok xg_nil ?_
  rintro L xs as w Qp ⟨a, b, c, rfl, h⟩
  refine ⟨Nat.le_of_ble_eq_true rfl, ?_⟩
  refine And.intro (fun h1 => ?_) (fun h1 => ?_)
  · trace_state
    refine And.intro ?_ ?_
    · trace_state
      exact rfl
    · trace_state
      sorry
  · trace_state
    sorry
theorem mX10_in2 (d : Nat) : xCT d yX10_in cX10_in 6 (some .boolean) sX10_in := by
  refine xmet0 (tb := tX10_in) (fl := fX10) (kc := nX10) (gs := g0) (cl := xlk []) 20 (by decide) tX10_in_ok fX10_ok nX10_ok g0_ok xg_nil ?_
  rintro L xs as w Qp ⟨a, b, c, rfl, h⟩
  refine ⟨Nat.le_of_ble_eq_true rfl, ?_⟩
  show (lg_cmp a b < 0 → (narrow .boolean (.int 0) = .int 0 ∧ Qp (some (.int 0)) w)) ∧ (¬ lg_cmp a b < 0 → (0 < lg_cmp a c → narrow .boolean (.int 0) = .int 0 ∧ Qp (some (.int 0)) w) ∧ (¬ 0 < lg_cmp a c → narrow .boolean (.int 1) = .int 1 ∧ Qp (some (.int 1)) w))
  sorry
