/-! ===== the reference: its small methods ===== -/
def lo (j : Nat) : Int32 := -1000000000 - nI j
def er (A : Nat → Nat → Int32) (j : Nat) : Nat → Nat → Int32 := aset A 3 (upd (A 3) j (A 3 j + 1))
def sX10_in : XS := fun as w post => ∃ a b c : Int32, as = [.long a.toInt64, .long b.toInt64, .long c.toInt64] ∧ (b ≤ a → a ≤ c → post (some (.int 1)) w) ∧ (¬ (b ≤ a ∧ a ≤ c) → post (some (.int 0)) w)
theorem lgc_lt {a b : Int64} : lg_cmp a b < 0 ↔ a < b := by
  unfold lg_cmp
  split
  · next h => exact ⟨fun q => absurd q (by decide), fun q => absurd q (lg_lt_not h)⟩
  · next h =>
    split
    · next h2 => exact ⟨fun q => absurd q (by decide), fun q => by rw [h2, fa_lt64] at q; omega⟩
    · next h2 =>
      refine ⟨fun _ => ?_, fun _ => by decide⟩
      have h : ¬ b < a := h
      rw [fa_lt64] at h ⊢
      have h3 : a.toInt ≠ b.toInt := fun e => h2 ((fa_eq64 a b).mpr e)
      omega
theorem lgc_gt {a b : Int64} : 0 < lg_cmp a b ↔ b < a := by
  unfold lg_cmp
  split
  · next h => exact ⟨fun _ => h, fun _ => by decide⟩
  · next h =>
    split
    · next h2 => exact ⟨fun q => absurd q (by decide), fun q => absurd q h⟩
    · next h2 => exact ⟨fun q => absurd q (by decide), fun q => absurd q h⟩
set_option maxRecDepth 10000 in
set_option maxHeartbeats 1000000 in
theorem mX10_in (d : Nat) (hd : 0 ≤ d) : xCT d yX10_in cX10_in 6 (some .boolean) sX10_in := by
  refine xmet0 (tb := tX10_in) (fl := fX10) (kc := nX10) (gs := g0) (cl := xlk []) 400 (by decide) tX10_in_ok fX10_ok nX10_ok g0_ok xg_nil ?_
  rintro L xs as w Qp ⟨a, b, c, rfl, h1, h2⟩
  refine ⟨Nat.le_of_ble_eq_true rfl, ?_⟩
  refine And.intro (fun h => ?_) (fun h => ?_)
  · have h : a < b := (fa_wide_lt _ _).mp (lgc_lt.mp h)
    exact ⟨rfl, h2 (fun q => (fa_of_lt h).2.1 q.1)⟩
  · have h : ¬ a < b := fun q => h (lgc_lt.mpr ((fa_wide_lt _ _).mpr q))
    refine And.intro (fun h3 => ?_) (fun h3 => ?_)
    · have h3 : c < a := (fa_wide_lt _ _).mp (lgc_gt.mp h3)
      exact ⟨rfl, h2 (fun q => (fa_of_lt h3).2.1 q.2)⟩
    · have h3 : ¬ c < a := fun q => h3 (lgc_gt.mpr ((fa_wide_lt _ _).mpr q))
      exact ⟨rfl, h1 (fa_of_nlt h) (fa_of_nlt h3)⟩
def sX10_finds : XS := fun as w post => ∃ (A : Nat → Nat → Int32) (F : Nat → Int32) (j : Nat), as = [.ref 0, .int (nI j)] ∧ w = LM A F ∧ j < 6 ∧ post (some (.int (lo j))) (LM (er A j) F)
set_option maxRecDepth 10000 in
set_option maxHeartbeats 1000000 in
theorem mX10_finds (d : Nat) (hd : 0 ≤ d) : xCT d yX10_finds cX10_finds 2 (some .int) sX10_finds := by
  refine xmet0 (tb := tX10_finds) (fl := fX10) (kc := nX10) (gs := g0) (cl := xlk []) 400 (by decide) tX10_finds_ok fX10_ok nX10_ok g0_ok xg_nil ?_
  rintro L xs as w Qp ⟨A, F, j, rfl, rfl, hj, h⟩
  refine ⟨Nat.le_of_ble_eq_true rfl, ?_⟩
  have hi : vp_in (nI j) 6 := vp_in_nI hj (by decide)
  refine And.intro hi (And.intro hi ?_)
  unfold er lo at h
  rw [← nI_clamp (n := j) (by omega)] at h
  rw [nI_clamp (n := j) (by omega)] at h
  have e : (nI j).toNatClampNeg = j := nI_clamp (by omega)
  show Qp _ (LM (aset A 3 (upd (A 3) (nI j).toNatClampNeg (A 3 (nI j).toNatClampNeg + 1))) F)
  rw [e]
  exact h
def sX10_its : XS := fun as w post => ∃ (A : Nat → Nat → Int32) (F : Nat → Int32) (i k : Nat), as = [.ref 0, .int (nI i), .int (nI k)] ∧ w = LM A F ∧ 8 + 8 * i + k < 250 ∧ post (some (.int (A 1 (8 + 8 * i + k)))) (LM A F)
theorem ix_its (i k : Nat) : (8 : Int32) + 8 * nI i + nI k = nI (8 + 8 * i + k) := by
  rw [show (8 : Int32) = nI 8 from rfl, pk_mul, nI_add, nI_add]
set_option maxRecDepth 10000 in
set_option maxHeartbeats 1000000 in
theorem mX10_its (d : Nat) (hd : 0 ≤ d) : xCT d yX10_its cX10_its 3 (some .int) sX10_its := by
  refine xmet0 (tb := tX10_its) (fl := fX10) (kc := nX10) (gs := g0) (cl := xlk []) 400 (by decide) tX10_its_ok fX10_ok nX10_ok g0_ok xg_nil ?_
  rintro L xs as w Qp ⟨A, F, i, k, rfl, rfl, hj, h⟩
  refine ⟨Nat.le_of_ble_eq_true rfl, ?_⟩
  show vp_in ((8 : Int32) + 8 * nI i + nI k) 250 ∧ Qp (some (.int (A 1 ((8 : Int32) + 8 * nI i + nI k).toNatClampNeg))) (LM A F)
  rw [ix_its, nI_clamp (by omega)]
  exact ⟨vp_in_nI hj (by decide), h⟩
def sX10_becomes : XS := fun as w post => ∃ (A : Nat → Nat → Int32) (F : Nat → Int32) (i k : Nat) (v : Int32), as = [.ref 0, .int (nI i), .int (nI k), .int v] ∧ w = LM A F ∧ 8 + 8 * i + k < 250 ∧ post none (LM (aset A 1 (upd (A 1) (8 + 8 * i + k) v)) F)
set_option maxRecDepth 10000 in
set_option maxHeartbeats 1000000 in
theorem mX10_becomes (d : Nat) (hd : 0 ≤ d) : xCT d yX10_becomes cX10_becomes 4 none sX10_becomes := by
  refine xmet0 (tb := tX10_becomes) (fl := fX10) (kc := nX10) (gs := g0) (cl := xlk []) 400 (by decide) tX10_becomes_ok fX10_ok nX10_ok g0_ok xg_nil ?_
  rintro L xs as w Qp ⟨A, F, i, k, v, rfl, rfl, hj, h⟩
  refine ⟨Nat.le_of_ble_eq_true rfl, ?_⟩
  show vp_in ((8 : Int32) + 8 * nI i + nI k) 250 ∧ Qp none (LM (aset A 1 (upd (A 1) ((8 : Int32) + 8 * nI i + nI k).toNatClampNeg v)) F)
  rw [ix_its, nI_clamp (by omega)]
  exact ⟨vp_in_nI hj (by decide), h⟩
def sX10_isSinger : XS := fun as w post => ∃ (A : Nat → Nat → Int32) (F : Nat → Int32) (s : Int32) (k : Nat), as = [.ref 0, .int s] ∧ w = LM A F ∧ A 1 2 = nI k ∧ k ≤ 8 ∧ (∀ i, i < k → s = nI i → post (some (.int 1)) (LM A F)) ∧ ((∀ i, i < k → s ≠ nI i) → post (some (.int 0)) (LM A F))
set_option maxRecDepth 10000 in
set_option maxHeartbeats 1000000 in
theorem mX10_isSinger (d : Nat) (hd : 1 ≤ d) : xCT d yX10_isSinger cX10_isSinger 2 (some .boolean) sX10_isSinger := by
  obtain ⟨d, rfl⟩ : ∃ e, d = e + 1 := ⟨d - 1, by omega⟩
  refine xmet0 (tb := tX10_isSinger) (fl := fX10) (kc := nX10) (gs := g0) (cl := xlk [(65, false, 3, sX10_in)]) 400 (by decide) tX10_isSinger_ok fX10_ok nX10_ok g0_ok (xg_cons (k_X10_65 (mX10_in d (by omega))) xg_nil) ?_
  rintro L xs as w Qp ⟨A, F, s, k, rfl, rfl, hk, hk8, h1, h2⟩
  refine ⟨Nat.le_of_ble_eq_true rfl, ?_⟩
  refine And.intro (vl 2 250 rfl rfl) ?_
  refine ⟨s, 0, A 1 2 - 1, rfl, fun g1 g2 => ?_, fun g => ?_⟩
  · rw [hk] at g2
    obtain ⟨i, hi, e⟩ := rgk (by omega) g1 g2
    exact ⟨rfl, h1 i hi e⟩
  · refine ⟨rfl, h2 (fun i hi e => g ?_)⟩
    rw [e, hk]
    exact rgk' (by omega) hi
def sX10_isSheet : XS := fun as w post => ∃ (s : Int32), as = [.int s] ∧ (∀ i, i < 4 → s = nI i → post (some (.int 1)) w) ∧ ((∀ i, i < 4 → s ≠ nI i) → post (some (.int 0)) w)
set_option maxRecDepth 10000 in
set_option maxHeartbeats 1000000 in
theorem mX10_isSheet (d : Nat) (hd : 1 ≤ d) : xCT d yX10_isSheet cX10_isSheet 1 (some .boolean) sX10_isSheet := by
  obtain ⟨d, rfl⟩ : ∃ e, d = e + 1 := ⟨d - 1, by omega⟩
  refine xmet0 (tb := tX10_isSheet) (fl := fX10) (kc := nX10) (gs := g0) (cl := xlk [(65, false, 3, sX10_in)]) 400 (by decide) tX10_isSheet_ok fX10_ok nX10_ok g0_ok (xg_cons (k_X10_65 (mX10_in d (by omega))) xg_nil) ?_
  rintro L xs as w Qp ⟨s, rfl, h1, h2⟩
  refine ⟨Nat.le_of_ble_eq_true rfl, ?_⟩
  refine ⟨s, 0, 3, rfl, fun g1 g2 => ?_, fun g => ?_⟩
  · obtain ⟨i, hi, e⟩ := rg (c := 3) (by omega) g1 g2
    exact ⟨rfl, h1 i (by omega) e⟩
  · refine ⟨rfl, h2 (fun i hi e => g ?_)⟩
    rw [e]
    exact ⟨nI_pos' (by omega), nI_le (b := 3) (by omega) (by omega)⟩
