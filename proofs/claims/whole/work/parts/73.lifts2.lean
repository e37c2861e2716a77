/-! ===== the class as one world: rounds, all states, copies ===== -/
def RPp : List Nat := [53, 54, 55, 56, 57, 58, 37, 38, 39, 40, 41, 42, 43, 44, 45, 46, 1, 2, 3, 4, 5, 6, 7, 8, 9, 10, 11, 12, 13, 14, 15, 16, 17, 18]
def RFm : List (Nat × Nat) := [(50, 50), (51, 51), (52, 52), (53, 53), (54, 54), (11, 11), (12, 12), (13, 13), (14, 14), (15, 15), (16, 16), (20, 20), (21, 21)]
theorem fckRF : fck RFm = true := by decide
def APp : List Nat := [59, 60, 61, 62, 63, 64, 37, 38, 39, 40, 41, 42, 43, 44, 45, 46, 1, 2, 3, 4, 5, 6, 7, 8, 9, 10, 11, 12, 13, 14, 15, 16, 17, 18]
def AFm : List (Nat × Nat) := [(60, 60), (61, 61), (62, 62), (63, 63), (11, 11), (12, 12), (13, 13), (14, 14), (15, 15), (16, 16), (20, 20), (21, 21)]
theorem fckAF : fck AFm = true := by decide
theorem ckR_W {s t u : Bool} : cq (CWD s t u) RCD RPp RFm = true := by
  cases s <;> cases t <;> cases u <;> decide +kernel
theorem ckA_W {s t u : Bool} : cq (CWD s t u) ACD APp AFm = true := by
  cases s <;> cases t <;> cases u <;> decide +kernel
def sX4_comesRound_W : XS := fun as w post => ∃ (s t u : Bool) (A : XA) (F : Nat → Int32) (D : Nat → Int32) (n k c : Nat), as = [.ref 53, .ref 1, .ref 37] ∧ w = CW s t u A F ∧ DI D n k ∧ TXO D 0 ∧ CR D (adn CP1 A) F ∧ KV (fun i => A (39 + i)) D n k ∧ F 54 = nI c ∧ c < 2 ^ 30 ∧ (∀ q, q < 1024 → ∃ t, t ≤ c ∧ A 58 q = nI t) ∧
  (¬ rdL D k = 601 → ∀ A' F', sm [54, 55, 56, 57, 58, 39, 40, 41, 42, 43, 44, 45, 46, 13, 14] A' A → KV (fun i => A' (39 + i)) D n k → F' 54 = nI (c + 1) → (∀ q, q < 1024 → ∃ t, t ≤ c + 1 ∧ A' 58 q = nI t) → fsm [50, 51, 54] F' F → F' 50 = nI (rdT D k) → F' 51 = nI (rdL D k) - nI (rdT D k) → post (some (.int 1)) (CW s t u A' F')) ∧
  (rdL D k = 601 → ∀ A' F', sm [54, 55, 56, 57, 58, 39, 40, 41, 42, 43, 44, 45, 46, 13, 14] A' A → KV (fun i => A' (39 + i)) D n k → F' 54 = nI (c + 1) → (∀ q, q < 1024 → ∃ t, t ≤ c + 1 ∧ A' 58 q = nI t) → fsm [50, 51, 54] F' F → post (some (.int 0)) (CW s t u A' F'))
set_option maxRecDepth 10000 in
set_option maxHeartbeats 1000000 in
theorem mX4_comesRound_W (d : Nat) (hd : 4 ≤ d) : xCT d yX4_comesRound cX4_comesRound 5 (some .boolean) sX4_comesRound_W := by
  refine xCT_in (mX4_comesRound d hd) ?_
  rintro as w post ⟨s, t, u, A, F, D, n, k, c, rfl, rfl, hI, hT, hC, hKV, hc, hc2, h5, hY, hN⟩
  have hk8 : k ≤ 8 := hI.2.2.2.2.1
  refine ⟨RPp, [.ref 0, .ref 16, .ref 6], RC (adn RPp A) (fdn RFm F), rfl, cq_dn (ckR_W (s := s) (t := t) (u := u)) A F, rfl, adn RPp A, fdn RFm F, D, n, k, c, rfl, rfl, hI, hT, hC, KV_cg hKV (fun t ht => by rcases h8 (show t < 8 by omega) with rfl | rfl | rfl | rfl | rfl | rfl | rfl | rfl <;> rfl), hc, hc2, h5, fun h3 A2 F2 hZ h50 h51 => ?_, fun h3 A2 F2 hZ => ?_⟩
  · refine cq_go (A := A) (F := F) (A' := A2) (F' := F2) (ckR_W (s := s) (t := t) (u := u)) ?_
    exact hY h3 (apu RPp A2 A) (fpu RFm F2 F) (sm_up (ps := RPp) hZ.1) (KV_cg hZ.2.1 (fun t ht => by rcases h8 (show t < 8 by omega) with rfl | rfl | rfl | rfl | rfl | rfl | rfl | rfl <;> rfl)) hZ.2.2.1 hZ.2.2.2.1 (fsm_up (l := [50, 51, 54]) fckRF (fun q hq => hZ.2.2.2.2 q (fun e => by rw [e] at hq; cases hq) (fun e => by rw [e] at hq; cases hq) (fun e => by rw [e] at hq; cases hq))) h50 h51
  · refine cq_go (A := A) (F := F) (A' := A2) (F' := F2) (ckR_W (s := s) (t := t) (u := u)) ?_
    exact hN h3 (apu RPp A2 A) (fpu RFm F2 F) (sm_up (ps := RPp) hZ.1) (KV_cg hZ.2.1 (fun t ht => by rcases h8 (show t < 8 by omega) with rfl | rfl | rfl | rfl | rfl | rfl | rfl | rfl <;> rfl)) hZ.2.2.1 hZ.2.2.2.1 (fsm_up (l := [50, 51, 54]) fckRF (fun q hq => hZ.2.2.2.2 q (fun e => by rw [e] at hq; cases hq) (fun e => by rw [e] at hq; cases hq) (fun e => by rw [e] at hq; cases hq)))
def sX4_findLongest_W : XS := fun as w post => ∃ (s t u : Bool) (A : XA) (F : Nat → Int32) (D : Nat → Int32) (n k c : Nat), as = [.ref 53, .ref 1, .ref 37] ∧ w = CW s t u A F ∧ DI D n k ∧ TXO D 0 ∧ CR D (adn CP1 A) F ∧ KV (fun i => A (39 + i)) D n k ∧ F 54 = nI c ∧ c < 2 ^ 29 ∧ (∀ q, q < 1024 → ∃ t, t ≤ c ∧ A 58 q = nI t) ∧
  ∀ A' F' c', sm [54, 55, 56, 57, 58, 39, 40, 41, 42, 43, 44, 45, 46, 13, 14] A' A → KV (fun i => A' (39 + i)) D n k → c' ≤ c + 600 → F' 54 = nI c' → (∀ q, q < 1024 → ∃ t, t ≤ c' ∧ A' 58 q = nI t) → fsm [50, 51, 52, 53, 54] F' F → LR (lgO D n k k) (F' 52) (F' 53) → post none (CW s t u A' F')
set_option maxRecDepth 10000 in
set_option maxHeartbeats 1000000 in
theorem mX4_findLongest_W (d : Nat) (hd : 5 ≤ d) : xCT d yX4_findLongest cX4_findLongest 9 none sX4_findLongest_W := by
  refine xCT_in (mX4_findLongest d hd) ?_
  rintro as w post ⟨s, t, u, A, F, D, n, k, c, rfl, rfl, hI, hT, hC, hKV, hc, hc2, h5, hY⟩
  have hk8 : k ≤ 8 := hI.2.2.2.2.1
  refine ⟨RPp, [.ref 0, .ref 16, .ref 6], RC (adn RPp A) (fdn RFm F), rfl, cq_dn (ckR_W (s := s) (t := t) (u := u)) A F, rfl, adn RPp A, fdn RFm F, D, n, k, c, rfl, rfl, hI, hT, hC, KV_cg hKV (fun t ht => by rcases h8 (show t < 8 by omega) with rfl | rfl | rfl | rfl | rfl | rfl | rfl | rfl <;> rfl), hc, hc2, h5, fun A2 F2 c' hS hK hc' h54 h5' hF hL => ?_⟩
  refine cq_go (A := A) (F := F) (A' := A2) (F' := F2) (ckR_W (s := s) (t := t) (u := u)) ?_
  refine hY (apu RPp A2 A) (fpu RFm F2 F) c' (sm_up (ps := RPp) hS) (KV_cg hK (fun t ht => by rcases h8 (show t < 8 by omega) with rfl | rfl | rfl | rfl | rfl | rfl | rfl | rfl <;> rfl)) hc' h54 h5' (fsm_up (l := [50, 51, 52, 53, 54]) fckRF (fun q hq => hF q ?_)) hL
  rcases Nat.lt_or_ge q 50 with g | g
  · exact Or.inl g
  · rcases Nat.lt_or_ge 54 q with g2 | g2
    · exact Or.inr g2
    · have : q = 50 ∨ q = 51 ∨ q = 52 ∨ q = 53 ∨ q = 54 := by omega
      rcases this with rfl | rfl | rfl | rfl | rfl <;> cases hq
def sX0_fill_W : XS := fun as w post => ∃ (s t u : Bool) (A : XA) (F : Nat → Int32) (D : Nat → Int32) (n k : Nat), as = [.ref 59, .ref 1, .ref 37] ∧ w = CW s t u A F ∧ DI D n k ∧ TXO D 0 ∧ CR D (adn CP1 A) F ∧ KV (fun i => A (39 + i)) D n k ∧
  (n ^ k ≤ 3000 → ∀ A' F', sm [60, 62, 63, 39, 40, 41, 42, 43, 44, 45, 46, 13, 14] A' A → KV (fun i => A' (39 + i)) D n k → F' 63 = nI (n ^ k) → fsm [63] F' F → (∀ c, c < n ^ k → A' 60 c = nI (nx D n k c)) → post (some (.int 1)) (CW s t u A' F')) ∧
  (¬ n ^ k ≤ 3000 → ∀ F', fsm [63] F' F → post (some (.int 0)) (CW s t u A F'))
set_option maxRecDepth 10000 in
set_option maxHeartbeats 1000000 in
theorem mX0_fill_W (d : Nat) (hd : 4 ≤ d) : xCT d yX0_fill cX0_fill 4 (some .boolean) sX0_fill_W := by
  refine xCT_in (mX0_fill d hd) ?_
  rintro as w post ⟨s, t, u, A, F, D, n, k, rfl, rfl, hI, hT, hC, hKV, hY, hN⟩
  have hk8 : k ≤ 8 := hI.2.2.2.2.1
  refine ⟨APp, [.ref 0, .ref 16, .ref 6], AC (adn APp A) (fdn AFm F), rfl, cq_dn (ckA_W (s := s) (t := t) (u := u)) A F, rfl, adn APp A, fdn AFm F, D, n, k, rfl, rfl, hI, hT, hC, KV_cg hKV (fun t ht => by rcases h8 (show t < 8 by omega) with rfl | rfl | rfl | rfl | rfl | rfl | rfl | rfl <;> rfl), fun h3 A2 F2 hS hK h63 hF hb => ?_, fun h3 F2 hF => ?_⟩
  · refine cq_go (A := A) (F := F) (A' := A2) (F' := F2) (ckA_W (s := s) (t := t) (u := u)) ?_
    exact hY h3 (apu APp A2 A) (fpu AFm F2 F) (sm_up (ps := APp) hS) (KV_cg hK (fun t ht => by rcases h8 (show t < 8 by omega) with rfl | rfl | rfl | rfl | rfl | rfl | rfl | rfl <;> rfl)) h63 (fsm_up (l := [63]) fckAF (fun q hq => hF q (fun e => by rw [e] at hq; cases hq))) hb
  · refine cq_go (A := A) (F := F) (A' := adn APp A) (F' := F2) (ckA_W (s := s) (t := t) (u := u)) ?_
    rw [apu_id]
    exact hN h3 (fpu AFm F2 F) (fsm_up (l := [63]) fckAF (fun q hq => hF q (fun e => by rw [e] at hq; cases hq)))
def sX0_findWished_W : XS := fun as w post => ∃ (s t u : Bool) (A : XA) (F : Nat → Int32) (D : Nat → Int32) (n k : Nat) (b : Nat → Nat) (N m : Nat), as = [.ref 59, .ref 1, .int (nI m)] ∧ w = CW s t u A F ∧ DI D n k ∧ CR D (adn CP1 A) F ∧ (F 63 = nI N ∧ N ≤ 3000 ∧ (∀ c, c < N → A 60 c = nI (b c) ∧ b c < N)) ∧ m < 2 ^ 31 ∧ ∀ F', F' 60 = nI (cntP (fun c => wsd D n k (itN b m c)) N) → F' 61 = firP (fun c => wsd D n k (itN b m c)) N → fsm [60, 61] F' F → post none (CW s t u A F')
set_option maxRecDepth 10000 in
set_option maxHeartbeats 1000000 in
theorem mX0_findWished_W (d : Nat) (hd : 1 ≤ d) : xCT d yX0_findWished cX0_findWished 4 none sX0_findWished_W := by
  refine xCT_in (mX0_findWished d hd) ?_
  rintro as w post ⟨s, t, u, A, F, D, n, k, b, N, m, rfl, rfl, hI, hC, hB, hm, h⟩
  refine ⟨APp, [.ref 0, .ref 16, .int (nI m)], AC (adn APp A) (fdn AFm F), rfl, cq_dn (ckA_W (s := s) (t := t) (u := u)) A F, rfl, adn APp A, fdn AFm F, D, n, k, b, N, m, rfl, rfl, hI, hC, hB, hm, fun F2 h60 h61 hF => ?_⟩
  refine cq_go (A := A) (F := F) (A' := adn APp A) (F' := F2) (ckA_W (s := s) (t := t) (u := u)) ?_
  rw [apu_id]
  exact h (fpu AFm F2 F) h60 h61 (fsm_up (l := [60, 61]) fckAF (fun q hq => hF q (fun e => by rw [e] at hq; cases hq) (fun e => by rw [e] at hq; cases hq)))
def sX0_worthiest_W : XS := fun as w post => ∃ (s t u : Bool) (A : XA) (F : Nat → Int32) (D : Nat → Int32) (n k : Nat) (b : Nat → Nat) (N m : Nat), as = [.ref 59, .ref 1, .int (nI m)] ∧ w = CW s t u A F ∧ DI D n k ∧ TXO D 1 ∧ CR D (adn CP1 A) F ∧ (F 63 = nI N ∧ N ≤ 3000 ∧ (∀ c, c < N → A 60 c = nI (b c) ∧ b c < N)) ∧ 0 < N ∧ m < 2 ^ 31 ∧ ∀ A' v, sm [64, 17, 18] A' A → v = (bst (fun c => wsum D (dg n (itN b m c)) k) N).1 → post (some (.int v)) (CW s t u A' F)
set_option maxRecDepth 10000 in
set_option maxHeartbeats 1000000 in
theorem mX0_worthiest_W (d : Nat) (hd : 4 ≤ d) : xCT d yX0_worthiest cX0_worthiest 7 (some .int) sX0_worthiest_W := by
  refine xCT_in (mX0_worthiest d hd) ?_
  rintro as w post ⟨s, t, u, A, F, D, n, k, b, N, m, rfl, rfl, hI, hT, hC, hB, hN, hm, h⟩
  refine ⟨APp, [.ref 0, .ref 16, .int (nI m)], AC (adn APp A) (fdn AFm F), rfl, cq_dn (ckA_W (s := s) (t := t) (u := u)) A F, rfl, adn APp A, fdn AFm F, D, n, k, b, N, m, rfl, rfl, hI, hT, hC, hB, hN, hm, fun A2 hS => ?_⟩
  refine cq_a (A := A) (F := F) (A' := A2) (ckA_W (s := s) (t := t) (u := u)) fckAF ?_
  exact h (apu APp A2 A) _ (sm_up (ps := APp) hS) rfl
def sX0_findAhead_W : XS := fun as w post => ∃ (s t u : Bool) (A : XA) (F : Nat → Int32) (b : Nat → Nat) (N : Nat) (x : Int32), as = [.ref 59, .int x] ∧ w = CW s t u A F ∧ (F 63 = nI N ∧ N ≤ 3000 ∧ (∀ c, c < N → A 60 c = nI (b c) ∧ b c < N)) ∧ ∀ F', F' 60 = nI (cntP (fun c => nI (b c) = x) N) → F' 61 = firP (fun c => nI (b c) = x) N → fsm [60, 61] F' F → post none (CW s t u A F')
set_option maxRecDepth 10000 in
set_option maxHeartbeats 1000000 in
theorem mX0_findAhead_W (d : Nat) (hd : 1 ≤ d) : xCT d yX0_findAhead cX0_findAhead 3 none sX0_findAhead_W := by
  refine xCT_in (mX0_findAhead d hd) ?_
  rintro as w post ⟨s, t, u, A, F, b, N, x, rfl, rfl, hB, h⟩
  refine ⟨APp, [.ref 0, .int x], AC (adn APp A) (fdn AFm F), rfl, cq_dn (ckA_W (s := s) (t := t) (u := u)) A F, rfl, adn APp A, fdn AFm F, b, N, x, rfl, rfl, hB, fun F2 h60 h61 hF => ?_⟩
  refine cq_go (A := A) (F := F) (A' := adn APp A) (F' := F2) (ckA_W (s := s) (t := t) (u := u)) ?_
  rw [apu_id]
  exact h (fpu AFm F2 F) h60 h61 (fsm_up (l := [60, 61]) fckAF (fun q hq => hF q (fun e => by rw [e] at hq; cases hq) (fun e => by rw [e] at hq; cases hq)))
def sX0_behindNone_W : XS := fun as w post => ∃ (s t u : Bool) (A : XA) (F : Nat → Int32) (b : Nat → Nat) (N : Nat), as = [.ref 59] ∧ w = CW s t u A F ∧ (F 63 = nI N ∧ N ≤ 3000 ∧ (∀ c, c < N → A 60 c = nI (b c) ∧ b c < N)) ∧ ∀ A' v, sm [61] A' A → v = nev b N N → post (some (.int v)) (CW s t u A' F)
set_option maxRecDepth 10000 in
set_option maxHeartbeats 1000000 in
theorem mX0_behindNone_W (d : Nat) (hd : 1 ≤ d) : xCT d yX0_behindNone cX0_behindNone 3 (some .int) sX0_behindNone_W := by
  refine xCT_in (mX0_behindNone d hd) ?_
  rintro as w post ⟨s, t, u, A, F, b, N, rfl, rfl, hB, h⟩
  refine ⟨APp, [.ref 0], AC (adn APp A) (fdn AFm F), rfl, cq_dn (ckA_W (s := s) (t := t) (u := u)) A F, rfl, adn APp A, fdn AFm F, b, N, rfl, rfl, hB, fun A2 hS => ?_⟩
  refine cq_a (A := A) (F := F) (A' := A2) (ckA_W (s := s) (t := t) (u := u)) fckAF ?_
  exact h (apu APp A2 A) _ (sm_up (ps := APp) hS) rfl
def sX0_findRounds_W : XS := fun as w post => ∃ (s t u : Bool) (A : XA) (F : Nat → Int32) (b : Nat → Nat) (N : Nat), as = [.ref 59] ∧ w = CW s t u A F ∧ (F 63 = nI N ∧ N ≤ 3000 ∧ (∀ c, c < N → A 60 c = nI (b c) ∧ b c < N)) ∧ ∀ A' F', sm [61] A' A → fsm [60, 62] F' F → F' 60 = (rgS b N N).2.1 → F' 62 = (rgS b N N).2.2 → post none (CW s t u A' F')
set_option maxRecDepth 10000 in
set_option maxHeartbeats 1000000 in
theorem mX0_findRounds_W (d : Nat) (hd : 1 ≤ d) : xCT d yX0_findRounds cX0_findRounds 4 none sX0_findRounds_W := by
  refine xCT_in (mX0_findRounds d hd) ?_
  rintro as w post ⟨s, t, u, A, F, b, N, rfl, rfl, hB, h⟩
  refine ⟨APp, [.ref 0], AC (adn APp A) (fdn AFm F), rfl, cq_dn (ckA_W (s := s) (t := t) (u := u)) A F, rfl, adn APp A, fdn AFm F, b, N, rfl, rfl, hB, fun A2 F2 hS hF h60 h62 => ?_⟩
  refine cq_go (A := A) (F := F) (A' := A2) (F' := F2) (ckA_W (s := s) (t := t) (u := u)) ?_
  exact h (apu APp A2 A) (fpu AFm F2 F) (sm_up (ps := APp) hS) (fsm_up (l := [60, 62]) fckAF (fun q hq => hF q (fun e => by rw [e] at hq; cases hq) (fun e => by rw [e] at hq; cases hq))) h60 h62
def CCW1 : List Nat := [1, 2, 3, 4, 5, 6, 7, 8, 9, 10, 11, 12, 13, 14, 15, 16, 17, 18, 19, 20, 21, 22, 23, 24, 25, 26, 27, 28, 29, 30, 31, 32, 33, 34, 35, 36]
def CMW1 : List (Nat × Nat) := [(11, 11), (12, 12), (13, 13), (14, 14), (15, 15), (16, 16), (20, 20), (21, 21), (31, 31), (32, 32), (33, 33), (34, 34), (35, 35), (36, 36), (40, 40), (41, 41)]
theorem fckCMW1 : fck CMW1 = true := by decide
theorem ckCCW1 {s t u : Bool} : cq (CWD s t u) CCD CCW1 CMW1 = true := by
  cases s <;> cases t <;> cases u <;> decide +kernel
def sX1_copyFrom_W1 : XS := fun as w post => ∃ (s t u : Bool) (A : XA) (F : Nat → Int32), as = [.ref 1, .ref 19] ∧ w = CW s t u A F ∧ sb_Fit (A 27) ∧ ∀ A' F', sm [2, 3, 4, 5, 6, 7, 8, 9, 10, 12, 16] A' A → (∀ i, i < 8 → A' 2 i = A 20 i ∧ A' 3 i = A 21 i ∧ A' 4 i = A 22 i ∧ A' 5 i = A 23 i ∧ A' 6 i = A 24 i ∧ A' 7 i = A 25 i ∧ A' 8 i = A 26 i) → A' 9 = cpU (A 27) (A 9) 50 → A' 10 = cpU (A 28) (A 10) 20 → A' 12 = cpU (A 30) (A 12) 50 → A' 16 = cpU (A 34) (A 16) 50 → fsm [11, 12, 13, 14, 15, 16, 20, 21] F' F → F' 11 = F 31 → F' 12 = F 32 → F' 13 = F 33 → F' 14 = F 34 → F' 15 = F 35 → F' 16 = F 36 → F' 20 = F 40 → F' 21 = F 41 → post none (CW s t u A' F')
set_option maxRecDepth 10000 in
set_option maxHeartbeats 1000000 in
theorem mX1_copyFrom_W1 (d : Nat) (hd : 2 ≤ d) : xCT d yX1_copyFrom cX1_copyFrom 2 none sX1_copyFrom_W1 := by
  refine xCT_in (mX1_copyFrom d hd) ?_
  rintro as w post ⟨s, t, u, A, F, rfl, rfl, hfit, h⟩
  refine ⟨CCW1, [.ref 0, .ref 18], CC (adn CCW1 A) (fdn CMW1 F), rfl, cq_dn (ckCCW1 (s := s) (t := t) (u := u)) A F, rfl, adn CCW1 A, fdn CMW1 F, rfl, rfl, hfit, fun A2 F2 hS hj h8 h9 h11 h15 hF f11 f12 f13 f14 f15 f16 f20 f21 => ?_⟩
  refine cq_go (A := A) (F := F) (A' := A2) (F' := F2) (ckCCW1 (s := s) (t := t) (u := u)) ?_
  exact h (apu CCW1 A2 A) (fpu CMW1 F2 F) (sm_up (ps := CCW1) hS) (fun i hi => ⟨hj 1 (by omega) (by omega) i hi, hj 2 (by omega) (by omega) i hi, hj 3 (by omega) (by omega) i hi, hj 4 (by omega) (by omega) i hi, hj 5 (by omega) (by omega) i hi, hj 6 (by omega) (by omega) i hi, hj 7 (by omega) (by omega) i hi⟩) h8 h9 h11 h15 (fsm_up (l := [11, 12, 13, 14, 15, 16, 20, 21]) fckCMW1 (fun q hq => hF q (fun e => by rw [e] at hq; cases hq) (fun e => by rw [e] at hq; cases hq) (fun e => by rw [e] at hq; cases hq) (fun e => by rw [e] at hq; cases hq) (fun e => by rw [e] at hq; cases hq) (fun e => by rw [e] at hq; cases hq) (fun e => by rw [e] at hq; cases hq) (fun e => by rw [e] at hq; cases hq))) f11 f12 f13 f14 f15 f16 f20 f21
def CCW2 : List Nat := [19, 20, 21, 22, 23, 24, 25, 26, 27, 28, 29, 30, 31, 32, 33, 34, 35, 36, 1, 2, 3, 4, 5, 6, 7, 8, 9, 10, 11, 12, 13, 14, 15, 16, 17, 18]
def CMW2 : List (Nat × Nat) := [(11, 31), (12, 32), (13, 33), (14, 34), (15, 35), (16, 36), (20, 40), (21, 41), (31, 11), (32, 12), (33, 13), (34, 14), (35, 15), (36, 16), (40, 20), (41, 21)]
theorem fckCMW2 : fck CMW2 = true := by decide
theorem ckCCW2 {s t u : Bool} : cq (CWD s t u) CCD CCW2 CMW2 = true := by
  cases s <;> cases t <;> cases u <;> decide +kernel
def sX1_copyFrom_W2 : XS := fun as w post => ∃ (s t u : Bool) (A : XA) (F : Nat → Int32), as = [.ref 19, .ref 1] ∧ w = CW s t u A F ∧ sb_Fit (A 9) ∧ ∀ A' F', sm [20, 21, 22, 23, 24, 25, 26, 27, 28, 30, 34] A' A → (∀ i, i < 8 → A' 20 i = A 2 i ∧ A' 21 i = A 3 i ∧ A' 22 i = A 4 i ∧ A' 23 i = A 5 i ∧ A' 24 i = A 6 i ∧ A' 25 i = A 7 i ∧ A' 26 i = A 8 i) → A' 27 = cpU (A 9) (A 27) 50 → A' 28 = cpU (A 10) (A 28) 20 → A' 30 = cpU (A 12) (A 30) 50 → A' 34 = cpU (A 16) (A 34) 50 → fsm [31, 32, 33, 34, 35, 36, 40, 41] F' F → F' 31 = F 11 → F' 32 = F 12 → F' 33 = F 13 → F' 34 = F 14 → F' 35 = F 15 → F' 36 = F 16 → F' 40 = F 20 → F' 41 = F 21 → post none (CW s t u A' F')
set_option maxRecDepth 10000 in
set_option maxHeartbeats 1000000 in
theorem mX1_copyFrom_W2 (d : Nat) (hd : 2 ≤ d) : xCT d yX1_copyFrom cX1_copyFrom 2 none sX1_copyFrom_W2 := by
  refine xCT_in (mX1_copyFrom d hd) ?_
  rintro as w post ⟨s, t, u, A, F, rfl, rfl, hfit, h⟩
  refine ⟨CCW2, [.ref 0, .ref 18], CC (adn CCW2 A) (fdn CMW2 F), rfl, cq_dn (ckCCW2 (s := s) (t := t) (u := u)) A F, rfl, adn CCW2 A, fdn CMW2 F, rfl, rfl, hfit, fun A2 F2 hS hj h8 h9 h11 h15 hF f11 f12 f13 f14 f15 f16 f20 f21 => ?_⟩
  refine cq_go (A := A) (F := F) (A' := A2) (F' := F2) (ckCCW2 (s := s) (t := t) (u := u)) ?_
  exact h (apu CCW2 A2 A) (fpu CMW2 F2 F) (sm_up (ps := CCW2) hS) (fun i hi => ⟨hj 1 (by omega) (by omega) i hi, hj 2 (by omega) (by omega) i hi, hj 3 (by omega) (by omega) i hi, hj 4 (by omega) (by omega) i hi, hj 5 (by omega) (by omega) i hi, hj 6 (by omega) (by omega) i hi, hj 7 (by omega) (by omega) i hi⟩) h8 h9 h11 h15 (fsm_up (l := [11, 12, 13, 14, 15, 16, 20, 21]) fckCMW2 (fun q hq => hF q (fun e => by rw [e] at hq; cases hq) (fun e => by rw [e] at hq; cases hq) (fun e => by rw [e] at hq; cases hq) (fun e => by rw [e] at hq; cases hq) (fun e => by rw [e] at hq; cases hq) (fun e => by rw [e] at hq; cases hq) (fun e => by rw [e] at hq; cases hq) (fun e => by rw [e] at hq; cases hq))) f11 f12 f13 f14 f15 f16 f20 f21
