/-! ===== the class: steps forget, runs ===== -/
def ST (K : Nat → Nat → Int32) : XW := [.inr (7, [.ref 1]), .inl (2, 8, .inr (.inr (.inr (.inr (KT 8 2))))), .inl (0, 144, .inl (K 0)), .inl (0, 144, .inl (K 1)), .inl (0, 144, .inl (K 2)), .inl (0, 144, .inl (K 3)), .inl (0, 144, .inl (K 4)), .inl (0, 144, .inl (K 5)), .inl (0, 144, .inl (K 6)), .inl (0, 144, .inl (K 7))]
theorem h8 {h : Nat} (hh : h < 8) : h = 0 ∨ h = 1 ∨ h = 2 ∨ h = 3 ∨ h = 4 ∨ h = 5 ∨ h = 6 ∨ h = 7 := by omega
def fgt (K : Nat → Nat → Int32) (i : Nat) : Nat → Nat → Int32 := fun t => if t = i then cpU (fun _ => -1) (K i) 144 else K t
def sX7_forget : XS := fun as w post => ∃ (K : Nat → Nat → Int32) (i : Nat), as = [.ref 0, .int (nI i)] ∧ w = ST K ∧ i < 8 ∧ post none (ST (fgt K i))
set_option maxRecDepth 10000 in
set_option maxHeartbeats 1000000 in
theorem mX7_forget (d : Nat) (hd : 1 ≤ d) : xCT d yX7_forget cX7_forget 2 none sX7_forget := by
  obtain ⟨d, rfl⟩ : ∃ e, d = e + 1 := ⟨d - 1, by omega⟩
  refine xmet0 (tb := tX7_forget) (fl := fX7) (kc := nX7) (gs := g0) (cl := xlk [(16, false, 2, xfrE sJ7_fill_53178)]) 400 (by decide) tX7_forget_ok fX7_ok nX7_ok g0_ok (xg_cons (k_X7_16 (xCT_frE (mJ7_fill_53178 d (by omega)))) xg_nil) ?_
  rintro L xs as w Qp ⟨K, i, rfl, rfl, hi, h⟩
  refine ⟨Nat.le_of_ble_eq_true rfl, ?_⟩
  refine And.intro (vp_in_nI (by omega) (by decide)) ?_
  rcases h8 hi with rfl | rfl | rfl | rfl | rfl | rfl | rfl | rfl
  · refine ⟨2 + 0, rfl, ?_⟩
    refine ⟨[2 + 0], [.ref 0, .int (-1)], [.inl (0, 144, .inl (K 0))], rfl, rfl, rfl, 144, K 0, -1, rfl, rfl, by decide, ?_⟩
    exact h
  · refine ⟨2 + 1, rfl, ?_⟩
    refine ⟨[2 + 1], [.ref 0, .int (-1)], [.inl (0, 144, .inl (K 1))], rfl, rfl, rfl, 144, K 1, -1, rfl, rfl, by decide, ?_⟩
    exact h
  · refine ⟨2 + 2, rfl, ?_⟩
    refine ⟨[2 + 2], [.ref 0, .int (-1)], [.inl (0, 144, .inl (K 2))], rfl, rfl, rfl, 144, K 2, -1, rfl, rfl, by decide, ?_⟩
    exact h
  · refine ⟨2 + 3, rfl, ?_⟩
    refine ⟨[2 + 3], [.ref 0, .int (-1)], [.inl (0, 144, .inl (K 3))], rfl, rfl, rfl, 144, K 3, -1, rfl, rfl, by decide, ?_⟩
    exact h
  · refine ⟨2 + 4, rfl, ?_⟩
    refine ⟨[2 + 4], [.ref 0, .int (-1)], [.inl (0, 144, .inl (K 4))], rfl, rfl, rfl, 144, K 4, -1, rfl, rfl, by decide, ?_⟩
    exact h
  · refine ⟨2 + 5, rfl, ?_⟩
    refine ⟨[2 + 5], [.ref 0, .int (-1)], [.inl (0, 144, .inl (K 5))], rfl, rfl, rfl, 144, K 5, -1, rfl, rfl, by decide, ?_⟩
    exact h
  · refine ⟨2 + 6, rfl, ?_⟩
    refine ⟨[2 + 6], [.ref 0, .int (-1)], [.inl (0, 144, .inl (K 6))], rfl, rfl, rfl, 144, K 6, -1, rfl, rfl, by decide, ?_⟩
    exact h
  · refine ⟨2 + 7, rfl, ?_⟩
    refine ⟨[2 + 7], [.ref 0, .int (-1)], [.inl (0, 144, .inl (K 7))], rfl, rfl, rfl, 144, K 7, -1, rfl, rfl, by decide, ?_⟩
    exact h
def sX7_forgetAll : XS := fun as w post => ∃ (K : Nat → Nat → Int32), as = [.ref 0] ∧ w = ST K ∧ ∀ K', (∀ t x, t < 8 → x < 144 → K' t x = -1) → post none (ST K')
set_option maxRecDepth 10000 in
set_option maxHeartbeats 1000000 in
theorem mX7_forgetAll (d : Nat) (hd : 2 ≤ d) : xCT d yX7_forgetAll cX7_forgetAll 2 none sX7_forgetAll := by
  obtain ⟨d, rfl⟩ : ∃ e, d = e + 1 := ⟨d - 1, by omega⟩
  refine xmet (tb := tX7_forgetAll) (fl := fX7) (kc := nX7) (gs := g0) (cl := xlk [(22, true, 2, xrcv 7 (sX7_forget))]) (by decide) tX7_forgetAll_ok fX7_ok nX7_ok g0_ok (xg_cons (k_X7_22 (mX7_forget d (by omega))) xg_nil) ?_
  rintro L xs as w Qp ⟨K, rfl, rfl, h⟩
  refine ⟨Nat.le_of_ble_eq_true rfl, 400, xlk [(2, 2)], fun m pc ls st w => pc = 2 ∧ st = [] ∧ ∃ i K', i ≤ 8 ∧ m = 8 - i ∧ ls = [(0, .ref 0), (1, .int (nI i))] ∧ w = ST K' ∧ (∀ t x, t < i → x < 144 → K' t x = -1), ?_, ?_⟩
  · exact ⟨8, rfl, rfl, 0, K, Nat.zero_le _, rfl, rfl, rfl, fun t x ht => absurd ht (Nat.not_lt_zero _)⟩
  · rintro m pc m9 ls st w hc ⟨rfl, rfl, i, K', hi, rfl, rfl, rfl, hK⟩
    refine And.intro (fun g => ?_) (fun g => ?_)
    · have := ge_n (x := 8) (k := 8) rfl (by omega) (by omega) g
      exact h K' (fun t x ht hx => hK t x (by omega) hx)
    · have hlt := nge_n (x := 8) (k := 8) rfl (by omega) (by omega) g
      refine ⟨K', i, rfl, rfl, hlt, ?_⟩
      refine ⟨8 - (i + 1), by omega, rfl, rfl, i + 1, fgt K' i, hlt, rfl, by rw [← nI_1]; rfl, rfl, fun t x ht hx => ?_⟩
      unfold fgt
      by_cases q : t = i
      · rw [if_pos q]
        exact if_pos hx
      · rw [if_neg q]
        exact hK t x (by omega) hx
/-- a run: the row, the spare one -/
def RU (r s : Nat → Int32) : XW := [.inr (5, [.ref 1, .ref 2]), .inl (0, 8, .inl r), .inl (0, 8, .inl s)]
def sX5_startFrom : XS := fun as w post => ∃ (r s f : Nat → Int32), as = [.ref 0, .ref 3] ∧ w = RU r s ++ [.inl (0, 8, .inl f)] ∧ post none (RU (cpU f r 8) s ++ [.inl (0, 8, .inl f)])
set_option maxRecDepth 10000 in
set_option maxHeartbeats 1000000 in
theorem mX5_startFrom (d : Nat) (hd : 1 ≤ d) : xCT d yX5_startFrom cX5_startFrom 2 none sX5_startFrom := by
  obtain ⟨d, rfl⟩ : ∃ e, d = e + 1 := ⟨d - 1, by omega⟩
  refine xmet0 (tb := tX5_startFrom) (fl := fX5) (kc := nX5) (gs := g0) (cl := xlk [(18, false, 5, xCpy)]) 400 (by decide) tX5_startFrom_ok fX5_ok nX5_ok g0_ok (xg_cons (k_X5_18_copy (xrm_ok d)) xg_nil) ?_
  rintro L xs as w Qp ⟨r, s, f, rfl, rfl, h⟩
  refine ⟨Nat.le_of_ble_eq_true rfl, ?_⟩
  refine And.intro ⟨by decide, by decide, by decide, by decide, by decide⟩ ?_
  have e : va_cpy f r 0 0 8 = cpU f r 8 := cpy_cpU f r 8
  rw [← e] at h
  exact h
def sX5_unlike : XS := fun as w post => ∃ (r s r2 s2 : Nat → Int32) (k : Nat), as = [.ref 0, .ref 3, .int (nI k)] ∧ w = RU r s ++ [.inr (5, [.ref 4, .ref 5]), .inl (0, 8, .inl r2), .inl (0, 8, .inl s2)] ∧ k ≤ 8 ∧ post (some (.int (oth r r2 k))) w
set_option maxRecDepth 10000 in
set_option maxHeartbeats 1000000 in
theorem mX5_unlike (d : Nat) (hd : 0 ≤ d) : xCT d yX5_unlike cX5_unlike 5 (some .int) sX5_unlike := by
  refine xmet (tb := tX5_unlike) (fl := fX5) (kc := nX5) (gs := g0) (cl := xlk []) (by decide) tX5_unlike_ok fX5_ok nX5_ok g0_ok xg_nil ?_
  rintro L xs as w Qp ⟨r, s, r2, s2, k, rfl, rfl, hk8, h⟩
  refine ⟨Nat.le_of_ble_eq_true rfl, 400, xlk [(5, 5)], fun m pc ls st w => pc = 5 ∧ st = [] ∧ ∃ i, i ≤ k ∧ m = k - i ∧ ls = [(0, .ref 0), (1, .ref 3), (2, .int (nI k)), (3, .int (oth r r2 i)), (4, .int (nI i))] ∧ w = RU r s ++ [.inr (5, [.ref 4, .ref 5]), .inl (0, 8, .inl r2), .inl (0, 8, .inl s2)], ?_, ?_⟩
  · exact ⟨k, rfl, rfl, 0, Nat.zero_le _, rfl, rfl, rfl⟩
  · rintro m pc m9 ls st w hc ⟨rfl, rfl, i, hi, rfl, rfl, rfl⟩
    refine And.intro (fun g => ?_) (fun g => ?_)
    · have := ge_n rfl (by omega) (by omega) g
      rw [show i = k by omega]
      exact h
    · have hlt := nge_n rfl (by omega) (by omega) g
      refine And.intro (vp_in_nI (by omega) (by decide)) (And.intro (vp_in_nI (by omega) (by decide)) ?_)
      refine And.intro (fun g2 => ?_) (fun g2 => ?_)
      · have g2 : r (nI i).toNatClampNeg = r2 (nI i).toNatClampNeg := g2
        rw [cl (by omega)] at g2
        have e : oth r r2 (i + 1) = oth r r2 i := by
          show oth r r2 i ||| cif (r i = r2 i) 0 ((1 : Int32) <<< (nI i &&& 31)) = _
          rw [cif_t g2, Int32.or_zero]
        refine ⟨k - (i + 1), by omega, rfl, rfl, i + 1, hlt, rfl, ?_, rfl⟩
        rw [e, ← nI_1]
        rfl
      · have g2 : ¬ r (nI i).toNatClampNeg = r2 (nI i).toNatClampNeg := g2
        rw [cl (by omega)] at g2
        have e : oth r r2 (i + 1) = oth r r2 i ||| ((1 : Int32) <<< (nI i &&& 31)) := by
          show oth r r2 i ||| cif (r i = r2 i) 0 ((1 : Int32) <<< (nI i &&& 31)) = _
          rw [cif_f g2]
        refine ⟨k - (i + 1), by omega, rfl, rfl, i + 1, hlt, rfl, ?_, rfl⟩
        rw [e, ← nI_1]
        rfl
