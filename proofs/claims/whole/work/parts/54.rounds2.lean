/-! ===== the class: rounds: when it comes round ===== -/
def CHR (A : XA) (F : Nat → Int32) : XW := [.inr (1, [.ref 1, .ref 2, .ref 3, .ref 4, .ref 5, .ref 6, .ref 7, .ref 8, .ref 9, .ref 10, .ref 14, .int (F 11), .int (F 12), .int (F 13), .int (F 14), .int (F 15), .int (F 16)]), .inl (0, 8, .inl (A 1)), .inl (0, 8, .inl (A 2)), .inl (0, 8, .inl (A 3)), .inl (0, 8, .inl (A 4)), .inl (0, 8, .inl (A 5)), .inl (0, 8, .inl (A 6)), .inl (0, 8, .inl (A 7)), .inl (1, 50, .inl (A 8)), .inl (0, 20, .inl (A 9)), .inr (2, [.ref 11, .ref 12, .ref 13, .int (F 20)]), .inl (0, 50, .inl (A 11)), .inl (0, 50, .inl (A 12)), .inl (0, 4, .inl (A 13)), .inr (2, [.ref 15, .ref 16, .ref 17, .int (F 21)]), .inl (0, 50, .inl (A 15)), .inl (0, 50, .inl (A 16)), .inl (0, 4, .inl (A 17)), .inl (0, 8, .inl (A 18))]
def CHRD : List DC := [.inr (.inr (1, [(0, 1), (0, 2), (0, 3), (0, 4), (0, 5), (0, 6), (0, 7), (0, 8), (0, 9), (0, 10), (0, 14), (1, 11), (1, 12), (1, 13), (1, 14), (1, 15), (1, 16)])), .inl (0, 8), .inl (0, 8), .inl (0, 8), .inl (0, 8), .inl (0, 8), .inl (0, 8), .inl (0, 8), .inl (1, 50), .inl (0, 20), .inr (.inr (2, [(0, 11), (0, 12), (0, 13), (1, 20)])), .inl (0, 50), .inl (0, 50), .inl (0, 4), .inr (.inr (2, [(0, 15), (0, 16), (0, 17), (1, 21)])), .inl (0, 50), .inl (0, 50), .inl (0, 4), .inl (0, 8)]
theorem CHR_dn (A : XA) (F : Nat → Int32) : CHR A F = dn A F 0 CHRD := rfl
def RC (A : XA) (F : Nat → Int32) : XW := [.inr (4, [.int (F 50), .int (F 51), .int (F 52), .int (F 53), .ref 1, .ref 2, .ref 3, .ref 4, .ref 5, .int (F 54)]), .inl (0, 8, .inl (A 1)), .inl (0, 8, .inl (A 2)), .inl (0, 1024, .inl (A 3)), .inl (0, 1024, .inl (A 4)), .inl (0, 1024, .inl (A 5)), .inr (7, [.ref 7]), .inl (2, 8, .inr (.inr (.inr (.inr (KT 8 8))))), .inl (0, 144, .inl (A 8)), .inl (0, 144, .inl (A 9)), .inl (0, 144, .inl (A 10)), .inl (0, 144, .inl (A 11)), .inl (0, 144, .inl (A 12)), .inl (0, 144, .inl (A 13)), .inl (0, 144, .inl (A 14)), .inl (0, 144, .inl (A 15)), .inr (1, [.ref 17, .ref 18, .ref 19, .ref 20, .ref 21, .ref 22, .ref 23, .ref 24, .ref 25, .ref 26, .ref 30, .int (F 11), .int (F 12), .int (F 13), .int (F 14), .int (F 15), .int (F 16)]), .inl (0, 8, .inl (A 17)), .inl (0, 8, .inl (A 18)), .inl (0, 8, .inl (A 19)), .inl (0, 8, .inl (A 20)), .inl (0, 8, .inl (A 21)), .inl (0, 8, .inl (A 22)), .inl (0, 8, .inl (A 23)), .inl (1, 50, .inl (A 24)), .inl (0, 20, .inl (A 25)), .inr (2, [.ref 27, .ref 28, .ref 29, .int (F 20)]), .inl (0, 50, .inl (A 27)), .inl (0, 50, .inl (A 28)), .inl (0, 4, .inl (A 29)), .inr (2, [.ref 31, .ref 32, .ref 33, .int (F 21)]), .inl (0, 50, .inl (A 31)), .inl (0, 50, .inl (A 32)), .inl (0, 4, .inl (A 33))]
def RCD : List DC := [.inr (.inr (4, [(1, 50), (1, 51), (1, 52), (1, 53), (0, 1), (0, 2), (0, 3), (0, 4), (0, 5), (1, 54)])), .inl (0, 8), .inl (0, 8), .inl (0, 1024), .inl (0, 1024), .inl (0, 1024), .inr (.inr (7, [(0, 7)])), .inr (.inl (8, 8)), .inl (0, 144), .inl (0, 144), .inl (0, 144), .inl (0, 144), .inl (0, 144), .inl (0, 144), .inl (0, 144), .inl (0, 144), .inr (.inr (1, [(0, 17), (0, 18), (0, 19), (0, 20), (0, 21), (0, 22), (0, 23), (0, 24), (0, 25), (0, 26), (0, 30), (1, 11), (1, 12), (1, 13), (1, 14), (1, 15), (1, 16)])), .inl (0, 8), .inl (0, 8), .inl (0, 8), .inl (0, 8), .inl (0, 8), .inl (0, 8), .inl (0, 8), .inl (1, 50), .inl (0, 20), .inr (.inr (2, [(0, 27), (0, 28), (0, 29), (1, 20)])), .inl (0, 50), .inl (0, 50), .inl (0, 4), .inr (.inr (2, [(0, 31), (0, 32), (0, 33), (1, 21)])), .inl (0, 50), .inl (0, 50), .inl (0, 4)]
theorem RC_dn (A : XA) (F : Nat → Int32) : RC A F = dn A F 0 RCD := rfl
def PS_RC : List Nat := [6, 7, 8, 9, 10, 11, 12, 13, 14, 15, 16, 17, 18, 19, 20, 21, 22, 23, 24, 25, 26, 27, 28, 29, 30, 31, 32, 33, 1, 2]
def CP16 : List Nat := [16, 17, 18, 19, 20, 21, 22, 23, 24, 25, 26, 27, 28, 29, 30, 31, 32, 33]
theorem ck_RC : cq (RCD) SPD (PS_RC) CF = true := by
  decide +kernel
def sX7_step_RC : XS := fun as w post => ∃ (A : XA) (F D : Nat → Int32) (n k : Nat), as = [.ref 6, .ref 16, .ref 1, .ref 2] ∧ w = RC A F ∧ DI D n k ∧ TXO D 0 ∧ CR D (adn CP16 A) F ∧ KV (fun i => A (8 + i)) D n k ∧ (∀ i, i < k → bd (A 1 i) n) ∧ ∀ A', sm [8, 9, 10, 11, 12, 13, 14, 15, 28, 29, 2] A' A → KV (fun i => A' (8 + i)) D n k → A' 2 = cpU (stp D k (A 1)) (A 2) k → post none (RC A' F)
set_option maxRecDepth 10000 in
set_option maxHeartbeats 1000000 in
theorem mX7_step_RC (d : Nat) (hd : 3 ≤ d) : xCT d yX7_step cX7_step 10 none sX7_step_RC := by
  refine xCT_in (mX7_step d hd) ?_
  rintro as w post ⟨A, F, D, n, k, rfl, rfl, hI, hT, hC, hKV, hf, h⟩
  have hk8 : k ≤ 8 := hI.2.2.2.2.1
  refine ⟨(PS_RC), [.ref 0, .ref 10, .ref 28, .ref 29], SP (adn (PS_RC) A) (fdn CF F), rfl, cq_dn ck_RC A F, rfl, adn (PS_RC) A, fdn CF F, D, n, k, rfl, rfl, hI, hT, hC, KV_cg hKV (fun t ht => by rcases h8 (show t < 8 by omega) with rfl | rfl | rfl | rfl | rfl | rfl | rfl | rfl <;> rfl), hf, fun A2 hA2 hK2 h29 => ?_⟩
  refine cq_go (A := A) (F := F) (A' := A2) (F' := fdn CF F) ck_RC ?_
  rw [fpu_id (show fck CF = true by decide)]
  exact h (apu (PS_RC) A2 A) (sm_up hA2) (KV_cg hK2 (fun t ht => by rcases h8 (show t < 8 by omega) with rfl | rfl | rfl | rfl | rfl | rfl | rfl | rfl <;> rfl)) h29
theorem cq_id {D Dc : List DC} {ps : List Nat} {fm : List (Nat × Nat)} (h : cq D Dc ps fm = true) (hf : fck fm = true) {A : XA} {F : Nat → Int32} {r : Option Value} {post : Option Value → XW → Prop} (hp : post (r.map (xrn ps)) (dn A F 0 D)) : (fun (r : Option Value) (wc' : XW) => match Nat.beq wc'.length ps.length with
  | true => post (r.map (xrn ps)) (xputs (dn A F 0 D) ps (wc'.map (xre ps)))
  | false => False) r (dn (adn ps A) (fdn fm F) 0 Dc) := cq_go h (by rw [fpu_id hf, apu_id]; exact hp)
theorem cq_a {D Dc : List DC} {ps : List Nat} {fm : List (Nat × Nat)} (h : cq D Dc ps fm = true) (hf : fck fm = true) {A A' : XA} {F : Nat → Int32} {r : Option Value} {post : Option Value → XW → Prop} (hp : post (r.map (xrn ps)) (dn (apu ps A' A) F 0 D)) : (fun (r : Option Value) (wc' : XW) => match Nat.beq wc'.length ps.length with
  | true => post (r.map (xrn ps)) (xputs (dn A F 0 D) ps (wc'.map (xre ps)))
  | false => False) r (dn A' (fdn fm F) 0 Dc) := cq_go h (by rw [fpu_id hf]; exact hp)
theorem fsN {F : Nat → Int32} {p q : Nat} {x : Int32} (h : p ≠ q) : fset F q x p = F p := by
  unfold fset
  cases hb : Nat.beq p q with
  | false => rfl
  | true => exact absurd (Nat.eq_of_beq_eq_true hb) h
theorem fckCF : fck CF = true := by decide
def PR_RC : List Nat := [16, 17, 18, 19, 20, 21, 22, 23, 24, 25, 26, 27, 28, 29, 30, 31, 32, 33, 1]
theorem ckR_RC : cq RCD CHRD PR_RC CF = true := by decide +kernel
def sX1_stateOf_RC : XS := fun as w post => ∃ (A : XA) (F : Nat → Int32) (k : Nat), as = [.ref 16, .ref 1] ∧ w = RC A F ∧ F 12 = nI k ∧ k ≤ 8 ∧ ∀ v, v = numF (F 11) (A 1) k 0 → post (some (.int v)) (RC A F)
set_option maxRecDepth 10000 in
set_option maxHeartbeats 1000000 in
theorem mX1_stateOf_RC (d : Nat) (hd : 0 ≤ d) : xCT d yX1_stateOf cX1_stateOf 4 (some .int) sX1_stateOf_RC := by
  refine xCT_in (mX1_stateOf d hd) ?_
  rintro as w post ⟨A, F, k, rfl, rfl, hk, hk8, h⟩
  refine ⟨PR_RC, [.ref 0, .ref 18], CHR (adn PR_RC A) (fdn CF F), rfl, cq_dn ckR_RC A F, rfl, adn PR_RC A, fdn CF F, A 1, 18, k, rfl, Or.inr ⟨rfl, rfl⟩, hk, hk8, ?_⟩
  exact cq_id (A := A) (F := F) ckR_RC fckCF (h _ rfl)
def RF : List (Nat × Nat) := [(50, 50), (51, 51), (52, 52), (53, 53), (54, 54)]
theorem ckB_RC : cq RCD RDD [0, 1, 2, 3, 4, 5] RF = true := by decide +kernel
def sX4_barOf_RC : XS := fun as w post => ∃ (A : XA) (F : Nat → Int32) (x : Nat → Int32) (v : Int32) (i : Nat), as = [.ref 0, .int v, .int (nI i)] ∧ w = RC A F ∧ v = x i ∧ i ≤ 600 ∧ HB (A 3) (A 4) (A 5) (F 54) x i ∧
  (∀ j, j < i → x j = x i → post (some (.int (nI j))) (RC A F)) ∧ ((∀ j, j < i → ¬ x j = x i) → ∀ A', sm [3, 4, 5] A' A → HB (A' 3) (A' 4) (A' 5) (F 54) x (i + 1) → (∀ q, A' 5 q = A 5 q ∨ A' 5 q = F 54) → post (some (.int (nI i))) (RC A' F))
set_option maxRecDepth 10000 in
set_option maxHeartbeats 1000000 in
theorem mX4_barOf_RC (d : Nat) (hd : 0 ≤ d) : xCT d yX4_barOf cX4_barOf 5 (some .int) sX4_barOf_RC := by
  refine xCT_in (mX4_barOf d hd) ?_
  rintro as w post ⟨A, F, x, v, i, rfl, rfl, hv, hi, hH, h1, h2⟩
  refine ⟨[0, 1, 2, 3, 4, 5], [.ref 0, .int v, .int (nI i)], RD (adn [0, 1, 2, 3, 4, 5] A) (fdn RF F), rfl, cq_dn ckB_RC A F, rfl, adn [0, 1, 2, 3, 4, 5] A, fdn RF F, x, v, i, rfl, rfl, hv, hi, hH, fun j hj e => ?_, fun hn A2 hS hH2 h5 => ?_⟩
  · exact cq_id (A := A) (F := F) ckB_RC (by decide) (h1 j hj e)
  · exact cq_a (A := A) (F := F) (A' := A2) ckB_RC (by decide) (h2 hn (apu [0, 1, 2, 3, 4, 5] A2 A) (sm_up hS) hH2 h5)
/-- what a search leaves -/
def RZ (D : Nat → Int32) (n k c : Nat) (A : XA) (F : Nat → Int32) (A' : XA) (F' : Nat → Int32) : Prop := sm [1, 2, 3, 4, 5, 8, 9, 10, 11, 12, 13, 14, 15, 28, 29] A' A ∧ KV (fun i => A' (8 + i)) D n k ∧ F' 54 = nI (c + 1) ∧ (∀ q, q < 1024 → ∃ t, t ≤ c + 1 ∧ A' 5 q = nI t) ∧ ∀ q, q ≠ 50 → q ≠ 51 → q ≠ 54 → F' q = F q
def sX4_comesRound : XS := fun as w post => ∃ (A : XA) (F D : Nat → Int32) (n k c : Nat), as = [.ref 0, .ref 16, .ref 6] ∧ w = RC A F ∧ DI D n k ∧ TXO D 0 ∧ CR D (adn CP16 A) F ∧ KV (fun i => A (8 + i)) D n k ∧ F 54 = nI c ∧ c < 2 ^ 30 ∧ (∀ q, q < 1024 → ∃ t, t ≤ c ∧ A 5 q = nI t) ∧
  (¬ rdL D k = 601 → ∀ A' F', RZ D n k c A F A' F' → F' 50 = nI (rdT D k) → F' 51 = nI (rdL D k) - nI (rdT D k) → post (some (.int 1)) (RC A' F')) ∧
  (rdL D k = 601 → ∀ A' F', RZ D n k c A F A' F' → post (some (.int 0)) (RC A' F'))
theorem CRsm {D : Nat → Int32} {A A' : XA} {F : Nat → Int32} {CP l : List Nat} (h : CR D (adn CP A) F) (hS : sm l A' A) (hl : l.all (fun p => [1, 2, 3, 4, 5, 6, 7, 8, 9, 11, 15].all (fun j => !(Nat.beq (CP.getD j 0) p))) = true) : CR D (adn CP A') F := by
  have hz : ∀ j, [1, 2, 3, 4, 5, 6, 7, 8, 9, 11, 15].contains j = true → adn CP A' j = adn CP A j := by
    intro j hj
    refine hS _ ?_
    cases hc : l.contains (CP.getD j 0) with
    | false => rfl
    | true =>
      have h1 := List.all_eq_true.mp hl _ (show CP.getD j 0 ∈ l by simpa using hc)
      have h2 := List.all_eq_true.mp h1 j (by simpa using hj)
      rw [Nat.beq_refl] at h2
      cases h2
  unfold CR at h ⊢
  rw [hz 1 rfl, hz 2 rfl, hz 3 rfl, hz 4 rfl, hz 5 rfl, hz 6 rfl, hz 7 rfl, hz 8 rfl, hz 9 rfl, hz 11 rfl, hz 15 rfl]
  exact h
set_option maxRecDepth 10000 in
set_option maxHeartbeats 1000000 in
theorem mX4_comesRound (d : Nat) (hd : 4 ≤ d) : xCT d yX4_comesRound cX4_comesRound 5 (some .boolean) sX4_comesRound := by
  obtain ⟨d, rfl⟩ : ∃ e, d = e + 1 := ⟨d - 1, by omega⟩
  refine xmet (tb := tX4_comesRound) (fl := fX4) (kc := nX4) (gs := g0) (cl := xlk [(54, true, 2, xrcv 1 (sX1_stateOf_RC)), (58, true, 3, xrcv 4 (sX4_barOf_RC)), (62, true, 4, xrcv 7 (sX7_step_RC)), (48, false, 5, xCpy)]) (by decide) tX4_comesRound_ok fX4_ok nX4_ok g0_ok (xg_cons (k_X4_54 (mX1_stateOf_RC d (by omega))) (xg_cons (k_X4_58 (mX4_barOf_RC d (by omega))) (xg_cons (k_X4_62 (mX7_step_RC d (by omega))) (xg_cons (k_X4_48_copy (xrm_ok d)) xg_nil)))) ?_
  rintro L xs as w Qp ⟨A, F, D, n, k, c, rfl, rfl, hI, hT, hC, hKV, hc0, hc2, h5, hY, hN⟩
  obtain ⟨hn, hn2, hn12, hk, hk8, hSG, _⟩ := id hI
  have hF11 : F 11 = D 1 := hC.1
  have hF12 : F 12 = nI k := hC.2.1.trans hk
  have hkN : (D 2).toNatClampNeg = k := by rw [hk, cl (by omega)]
  have hA3 : ∀ i, i < k → A 19 i = nw D i := fun i hi => (hC.2.2.2.2.2.2.1 i (by rw [hkN]; exact hi)).2.2.1
  let x : Nat → Int32 := fun j => nI (fN D k j)
  have hx : ∀ j, x j = nI (fN D k j) := fun _ => rfl
  have hxe : ∀ i j, x i = x j ↔ fN D k i = fN D k j := fun i j => ⟨fun e => nI_inj (by have := (fN_v hI i).2; omega) (by have := (fN_v hI j).2; omega) e, fun e => by rw [hx, hx, e]⟩
  clear_value x
  have eS : F 54 + 1 = nI (c + 1) := by rw [hc0, nI_1]
  refine ⟨Nat.le_of_ble_eq_true rfl, 400, xlk [(27, 4)], fun m pc ls st w => pc = 27 ∧ st = [] ∧ ∃ (i : Nat) (A' : XA), i ≤ 601 ∧ m = 601 - i ∧ ls = [(0, .ref 0), (1, .ref 16), (2, .ref 6), (3, .int (nI i))] ∧ w = RC A' (fset F 54 (nI (c + 1))) ∧ sm [1, 2, 3, 4, 5, 8, 9, 10, 11, 12, 13, 14, 15, 28, 29] A' A ∧ KV (fun i => A' (8 + i)) D n k ∧ (∀ q, q < 1024 → ∃ t, t ≤ c + 1 ∧ A' 5 q = nI t) ∧ HB (A' 3) (A' 4) (A' 5) (nI (c + 1)) x i ∧ (∀ t, t < k → A' 1 t = itr D k i (nw D) t) ∧ (∀ t, t < k → bd (A' 1 t) n) ∧ (∀ j, j < i → ∀ j', j' < j → ¬ fN D k j' = fN D k j), ?_, ?_⟩
  · refine And.intro ⟨by decide, by decide, by decide, by decide, by decide⟩ ?_
    refine ⟨601, rfl, rfl, 0, aset A 1 (cpU (A 19) (A 1) 8), by omega, rfl, rfl, ?_, sm_aset rfl, KV_cg hKV (fun t ht => asN (by omega)), fun q hq => ?_, HB_0 (fun q hq e => ?_), fun t ht => ?_, fun t ht => ?_, fun j hj => absurd hj (Nat.not_lt_zero _)⟩
    · rw [← eS, ← cpy_cpU]
      rfl
    · obtain ⟨t, ht, e⟩ := h5 q hq
      exact ⟨t, by omega, e⟩
    · obtain ⟨t, ht, e2⟩ := h5 q hq
      have e : A 5 q = nI (c + 1) := e
      rw [e2] at e
      have := nI_inj (by omega) (by omega) e
      omega
    · exact (cpU_lt (by omega)).trans (hA3 t ht)
    · show bd (cpU (A 19) (A 1) 8 t) n
      rw [cpU_lt (by omega), hA3 t ht]
      exact (hSG t ht).2.2.1
  · rintro m pc m9 ls st w hc ⟨rfl, rfl, i, A', hi, rfl, rfl, rfl, hS, hKV', h5', hH, hr, hb, hd⟩
    refine And.intro (fun g => ?_) (fun g => ?_)
    · have g : nI 600 < nI i := g
      have hi2 : i = 601 := by
        have : 600 < i := by
          refine Classical.byContradiction (fun q => ?_)
          exact absurd (nI_le (a := i) (b := 600) (by omega) (by omega)) (fun q2 => (fa_of_lt g).2.1 q2)
        omega
      subst hi2
      have e : rdL D k = 601 := lead_of (fun j hj => hd j hj)
      exact ⟨rfl, hN e A' _ ⟨hS, hKV', rfl, h5', fun q q1 q2 q3 => fsN q3⟩⟩
    · have hlt : i ≤ 600 := by
        refine Classical.byContradiction (fun q => ?_)
        exact g (nI_lt (a := 600) (b := i) (by omega) (by omega))
      refine ⟨A', fset F 54 (nI (c + 1)), k, rfl, rfl, hF12, hk8, fun v hv => ?_⟩
      have hv : v = x i := by
        rw [hv, hx, ← (fN_v hI i).1]
        show numF (F 11) (A' 1) k 0 = _
        rw [hF11]
        exact numF_cg k 0 hr
      refine ⟨A', fset F 54 (nI (c + 1)), x, v, i, rfl, rfl, hv, hlt, hH, fun j hj e => ?_, fun hne A2 hS2 hH2 h52 => ?_⟩
      · have e2 := (hxe j i).mp e
        have eL : rdL D k = i := lead_stop (lead_of (fun j hj => hd j hj)) (fun q => q j hj e2) 601 (by omega)
        have eT : rdT D k = j := by
          unfold rdT
          rw [eL]
          refine lead_stop (lead_of (fun j' hj' q => ?_)) (fun q => q e2) i (by omega)
          exact hd j hj j' hj' (q.trans e2.symm)
        refine And.intro (fun g2 => ?_) (fun g2 => ?_)
        · have g2 : nI i ≤ nI j := g2
          exact absurd (nI_lt (a := j) (b := i) hj (by omega)) (fun q => (fa_of_lt q).2.1 g2)
        · refine ⟨rfl, ?_⟩
          exact hY (by rw [eL]; omega) A' (fset (fset (fset F 54 (nI (c + 1))) 50 (nI j)) 51 (nI i - nI j)) ⟨hS, hKV', rfl, h5', fun q q1 q2 q3 => (fsN q2).trans ((fsN q1).trans (fsN q3))⟩ (by rw [eT]; rfl) (by rw [eT, eL]; rfl)
      · refine And.intro (fun g2 => ?_) (fun g2 => ?_)
        · have hS3 : sm [1, 2, 3, 4, 5, 8, 9, 10, 11, 12, 13, 14, 15, 28, 29] A2 A := sm_tr hS (sm_w hS2 rfl)
          have e1 : A2 1 = A' 1 := hS2 1 rfl
          refine ⟨A2, fset F 54 (nI (c + 1)), D, n, k, rfl, rfl, hI, hT, CRsm (CP := CP16) hC hS3 (by decide), KV_cg hKV' (fun t ht => ?_), by rw [e1]; exact hb, fun A3 hS4 hK4 h24 => ?_⟩
          · refine hS2 (8 + t) ?_
            rcases h8 (show t < 8 by omega) with rfl | rfl | rfl | rfl | rfl | rfl | rfl | rfl <;> rfl
          · refine And.intro ⟨by decide, by decide, by decide, by decide, by decide⟩ ?_
            have hr3 : ∀ t, t < k → cpU (A3 2) (A3 1) 8 t = stp D k (A' 1) t := fun t ht => by
              rw [cpU_lt (by omega), h24, cpU_lt ht, e1]
            refine ⟨601 - (i + 1), by omega, rfl, rfl, i + 1, aset A3 1 (cpU (A3 2) (A3 1) 8), by omega, rfl, by rw [← nI_1]; rfl, ?_, sm_tr hS3 (sm_tr (sm_w hS4 rfl) (sm_aset rfl)), KV_cg hK4 (fun t ht => asN (by omega)), fun q hq => ?_, ?_, fun t ht => ?_, fun t ht => ?_, fun j hj j' hj' => ?_⟩
            · rw [← cpy_cpU]
              rfl
            · show ∃ t, t ≤ c + 1 ∧ A3 5 q = nI t
              rw [hS4 5 rfl]
              rcases h52 q with e | e
              · rw [e]
                exact h5' q hq
              · exact ⟨c + 1, Nat.le_refl _, e⟩
            · show HB (A3 3) (A3 4) (A3 5) (nI (c + 1)) x (i + 1)
              rw [hS4 3 rfl, hS4 4 rfl, hS4 5 rfl]
              exact hH2
            · exact (hr3 t ht).trans (stp_cg hI hr t ht)
            · show bd (cpU (A3 2) (A3 1) 8 t) n
              rw [hr3 t ht]
              exact stp_bd hn hn2 hn12 _ t ht
            · by_cases q : j = i
              · subst q
                exact fun q => hne j' hj' ((hxe j' j).mpr q)
              · exact hd j (by omega) j' hj'
        · exact absurd (by show nI i ≤ nI i; exact nI_le (Nat.le_refl _) (by omega)) g2
