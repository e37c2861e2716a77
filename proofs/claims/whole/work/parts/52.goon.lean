/-! ===== the class: a run goes on ===== -/
def GO (s : Bool) (A : XA) (F : Nat → Int32) : XW := [.inr (5, [.ref (bif s then 2 else 1), .ref (bif s then 1 else 2)]), .inl (0, 8, .inl (A 1)), .inl (0, 8, .inl (A 2)), .inr (7, [.ref 4]), .inl (2, 8, .inr (.inr (.inr (.inr (KT 8 5))))), .inl (0, 144, .inl (A 5)), .inl (0, 144, .inl (A 6)), .inl (0, 144, .inl (A 7)), .inl (0, 144, .inl (A 8)), .inl (0, 144, .inl (A 9)), .inl (0, 144, .inl (A 10)), .inl (0, 144, .inl (A 11)), .inl (0, 144, .inl (A 12)), .inr (1, [.ref 14, .ref 15, .ref 16, .ref 17, .ref 18, .ref 19, .ref 20, .ref 21, .ref 22, .ref 23, .ref 27, .int (F 11), .int (F 12), .int (F 13), .int (F 14), .int (F 15), .int (F 16)]), .inl (0, 8, .inl (A 14)), .inl (0, 8, .inl (A 15)), .inl (0, 8, .inl (A 16)), .inl (0, 8, .inl (A 17)), .inl (0, 8, .inl (A 18)), .inl (0, 8, .inl (A 19)), .inl (0, 8, .inl (A 20)), .inl (1, 50, .inl (A 21)), .inl (0, 20, .inl (A 22)), .inr (2, [.ref 24, .ref 25, .ref 26, .int (F 20)]), .inl (0, 50, .inl (A 24)), .inl (0, 50, .inl (A 25)), .inl (0, 4, .inl (A 26)), .inr (2, [.ref 28, .ref 29, .ref 30, .int (F 21)]), .inl (0, 50, .inl (A 28)), .inl (0, 50, .inl (A 29)), .inl (0, 4, .inl (A 30))]
def GOD (s : Bool) : List DC := [.inr (.inr (5, [(0, (bif s then 2 else 1)), (0, (bif s then 1 else 2))])), .inl (0, 8), .inl (0, 8), .inr (.inr (7, [(0, 4)])), .inr (.inl (8, 5)), .inl (0, 144), .inl (0, 144), .inl (0, 144), .inl (0, 144), .inl (0, 144), .inl (0, 144), .inl (0, 144), .inl (0, 144), .inr (.inr (1, [(0, 14), (0, 15), (0, 16), (0, 17), (0, 18), (0, 19), (0, 20), (0, 21), (0, 22), (0, 23), (0, 27), (1, 11), (1, 12), (1, 13), (1, 14), (1, 15), (1, 16)])), .inl (0, 8), .inl (0, 8), .inl (0, 8), .inl (0, 8), .inl (0, 8), .inl (0, 8), .inl (0, 8), .inl (1, 50), .inl (0, 20), .inr (.inr (2, [(0, 24), (0, 25), (0, 26), (1, 20)])), .inl (0, 50), .inl (0, 50), .inl (0, 4), .inr (.inr (2, [(0, 28), (0, 29), (0, 30), (1, 21)])), .inl (0, 50), .inl (0, 50), .inl (0, 4)]
theorem GO_dn {s : Bool} (A : XA) (F : Nat → Int32) : GO s A F = dn A F 0 (GOD s) := rfl
def PS_GO (s : Bool) : List Nat := [3, 4, 5, 6, 7, 8, 9, 10, 11, 12, 13, 14, 15, 16, 17, 18, 19, 20, 21, 22, 23, 24, 25, 26, 27, 28, 29, 30, (bif s then 2 else 1), (bif s then 1 else 2)]
def CP13 : List Nat := [13, 14, 15, 16, 17, 18, 19, 20, 21, 22, 23, 24, 25, 26, 27, 28, 29, 30]
theorem ck_GO {s : Bool} : cq (GOD s) SPD (PS_GO s) CF = true := by
  cases s <;> decide +kernel
def sX7_step_GO : XS := fun as w post => ∃ (s : Bool) (A : XA) (F D : Nat → Int32) (n k : Nat), as = [.ref 3, .ref 13, .ref (bif s then 2 else 1), .ref (bif s then 1 else 2)] ∧ w = GO s A F ∧ DI D n k ∧ TXO D 0 ∧ CR D (adn CP13 A) F ∧ KV (fun i => A (5 + i)) D n k ∧ (∀ i, i < k → bd (A (bif s then 2 else 1) i) n) ∧ ∀ A', sm [5, 6, 7, 8, 9, 10, 11, 12, 25, 26, (bif s then 1 else 2)] A' A → KV (fun i => A' (5 + i)) D n k → A' (bif s then 1 else 2) = cpU (stp D k (A (bif s then 2 else 1))) (A (bif s then 1 else 2)) k → post none (GO s A' F)
set_option maxRecDepth 10000 in
set_option maxHeartbeats 1000000 in
theorem mX7_step_GO (d : Nat) (hd : 3 ≤ d) : xCT d yX7_step cX7_step 10 none sX7_step_GO := by
  refine xCT_in (mX7_step d hd) ?_
  rintro as w post ⟨s, A, F, D, n, k, rfl, rfl, hI, hT, hC, hKV, hf, h⟩
  have hk8 : k ≤ 8 := hI.2.2.2.2.1
  cases s
  · refine ⟨(PS_GO false), [.ref 0, .ref 10, .ref 28, .ref 29], SP (adn (PS_GO false) A) (fdn CF F), rfl, cq_dn ck_GO A F, rfl, adn (PS_GO false) A, fdn CF F, D, n, k, rfl, rfl, hI, hT, hC, KV_cg hKV (fun t ht => by rcases h8 (show t < 8 by omega) with rfl | rfl | rfl | rfl | rfl | rfl | rfl | rfl <;> rfl), hf, fun A2 hA2 hK2 h29 => ?_⟩
    refine cq_go (A := A) (F := F) (A' := A2) (F' := fdn CF F) ck_GO ?_
    rw [fpu_id (show fck CF = true by decide)]
    exact h (apu (PS_GO false) A2 A) (sm_up hA2) (KV_cg hK2 (fun t ht => by rcases h8 (show t < 8 by omega) with rfl | rfl | rfl | rfl | rfl | rfl | rfl | rfl <;> rfl)) h29
  · refine ⟨(PS_GO true), [.ref 0, .ref 10, .ref 28, .ref 29], SP (adn (PS_GO true) A) (fdn CF F), rfl, cq_dn ck_GO A F, rfl, adn (PS_GO true) A, fdn CF F, D, n, k, rfl, rfl, hI, hT, hC, KV_cg hKV (fun t ht => by rcases h8 (show t < 8 by omega) with rfl | rfl | rfl | rfl | rfl | rfl | rfl | rfl <;> rfl), hf, fun A2 hA2 hK2 h29 => ?_⟩
    refine cq_go (A := A) (F := F) (A' := A2) (F' := fdn CF F) ck_GO ?_
    rw [fpu_id (show fck CF = true by decide)]
    exact h (apu (PS_GO true) A2 A) (sm_up hA2) (KV_cg hK2 (fun t ht => by rcases h8 (show t < 8 by omega) with rfl | rfl | rfl | rfl | rfl | rfl | rfl | rfl <;> rfl)) h29
/-- where the row is -/
def rpl (s : Bool) : Nat := bif s then 2 else 1
def sX5_goOn : XS := fun as w post => ∃ (s : Bool) (A : XA) (F D : Nat → Int32) (n k m : Nat), as = [.ref 0, .ref 13, .ref 3, .int (nI m)] ∧ w = GO s A F ∧ m < 2 ^ 31 ∧ DI D n k ∧ TXO D 0 ∧ CR D (adn CP13 A) F ∧ KV (fun i => A (5 + i)) D n k ∧ (∀ i, i < k → bd (A (rpl s) i) n) ∧
  ∀ s' A', sm [1, 2, 5, 6, 7, 8, 9, 10, 11, 12, 25, 26] A' A → KV (fun i => A' (5 + i)) D n k → (∀ i, i < k → A' (rpl s') i = itr D k m (A (rpl s)) i) → post none (GO s' A' F)
theorem cpU_lt {f g : Nat → Int32} {s j : Nat} (h : j < s) : cpU f g s j = f j := if_pos h
theorem CR13 {D : Nat → Int32} {A A' : XA} {F : Nat → Int32} (h : CR D (adn CP13 A) F) (hS : sm [1, 2, 5, 6, 7, 8, 9, 10, 11, 12, 25, 26] A' A) : CR D (adn CP13 A') F := by
  refine CR_cg h (fun p hp => ?_)
  unfold adn CP13
  by_cases q : p < 18
  · have : p = 0 ∨ p = 1 ∨ p = 2 ∨ p = 3 ∨ p = 4 ∨ p = 5 ∨ p = 6 ∨ p = 7 ∨ p = 8 ∨ p = 9 ∨ p = 10 ∨ p = 11 ∨ p = 12 ∨ p = 13 ∨ p = 14 ∨ p = 15 ∨ p = 16 ∨ p = 17 := by omega
    rcases this with rfl | rfl | rfl | rfl | rfl | rfl | rfl | rfl | rfl | rfl | rfl | rfl | rfl | rfl | rfl | rfl | rfl | rfl <;> first | exact hS _ rfl | cases hp
  · rw [List.getD_eq_getElem?_getD, List.getElem?_eq_none_iff.mpr (by show 18 ≤ p; omega)]
    exact hS 0 rfl
set_option maxRecDepth 10000 in
set_option maxHeartbeats 1000000 in
theorem mX5_goOn (d : Nat) (hd : 4 ≤ d) : xCT d yX5_goOn cX5_goOn 6 none sX5_goOn := by
  obtain ⟨d, rfl⟩ : ∃ e, d = e + 1 := ⟨d - 1, by omega⟩
  refine xmet (tb := tX5_goOn) (fl := fX5) (kc := nX5) (gs := g0) (cl := xlk [(24, true, 4, xrcv 7 (sX7_step_GO))]) (by decide) tX5_goOn_ok fX5_ok nX5_ok g0_ok (xg_cons (k_X5_24 (mX7_step_GO d (by omega))) xg_nil) ?_
  rintro L xs as w Qp ⟨s, A, F, D, n, k, m1, rfl, rfl, hm1, hI, hT, hC, hKV, hf, h⟩
  refine ⟨Nat.le_of_ble_eq_true rfl, 400, xlk [(3, 5)], fun m pc ls st w => pc = 3 ∧ st = [] ∧ ∃ (i : Nat) (s' : Bool) (A' : XA), i ≤ m1 ∧ m = m1 - i ∧ ls = [(0, .ref 0), (1, .ref 13), (2, .ref 3), (3, .int (nI m1)), (4, .int (nI i))] ∧ w = GO s' A' F ∧ sm [1, 2, 5, 6, 7, 8, 9, 10, 11, 12, 25, 26] A' A ∧ KV (fun i => A' (5 + i)) D n k ∧ (∀ j, j < k → bd (A' (rpl s') j) n) ∧ (∀ j, j < k → A' (rpl s') j = itr D k i (A (rpl s)) j), ?_, ?_⟩
  · exact ⟨m1, rfl, rfl, 0, s, A, Nat.zero_le _, rfl, rfl, rfl, sm_rf, hKV, hf, fun _ _ => rfl⟩
  · rintro m pc m9 ls st w hc ⟨rfl, rfl, i, s', A', hi, rfl, rfl, rfl, hS, hKV', hb, hr⟩
    refine And.intro (fun g => ?_) (fun g => ?_)
    · have := ge_n rfl (by omega) (by omega) g
      exact h s' A' hS hKV' (by rw [← show i = m1 by omega]; exact hr)
    · have hlt := nge_n rfl (by omega) (by omega) g
      cases s'
      · refine ⟨false, A', F, D, n, k, rfl, rfl, hI, hT, CR13 hC hS, hKV', hb, fun A2 hS2 hK2 h2 => ?_⟩
        have hS3 : sm [1, 2, 5, 6, 7, 8, 9, 10, 11, 12, 25, 26] A2 A := sm_tr hS (sm_w hS2 rfl)
        have hr2 : ∀ j, j < k → A2 (rpl (!false)) j = stp D k (A' (rpl false)) j := fun j hj => (congrFun h2 j).trans (cpU_lt hj)
        exact ⟨m1 - (i + 1), by omega, rfl, rfl, i + 1, !false, A2, hlt, rfl, by rw [← nI_1]; rfl, rfl, hS3, hK2, fun j hj => by rw [hr2 j hj]; exact stp_bd hI.1 hI.2.1 hI.2.2.1 _ j hj, fun j hj => (hr2 j hj).trans (stp_cg hI hr j hj)⟩
      · refine ⟨true, A', F, D, n, k, rfl, rfl, hI, hT, CR13 hC hS, hKV', hb, fun A2 hS2 hK2 h2 => ?_⟩
        have hS3 : sm [1, 2, 5, 6, 7, 8, 9, 10, 11, 12, 25, 26] A2 A := sm_tr hS (sm_w hS2 rfl)
        have hr2 : ∀ j, j < k → A2 (rpl (!true)) j = stp D k (A' (rpl true)) j := fun j hj => (congrFun h2 j).trans (cpU_lt hj)
        exact ⟨m1 - (i + 1), by omega, rfl, rfl, i + 1, !true, A2, hlt, rfl, by rw [← nI_1]; rfl, rfl, hS3, hK2, fun j hj => by rw [hr2 j hj]; exact stp_bd hI.1 hI.2.1 hI.2.2.1 _ j hj, fun j hj => (hr2 j hj).trans (stp_cg hI hr j hj)⟩
