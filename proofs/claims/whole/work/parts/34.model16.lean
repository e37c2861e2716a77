/-! ===== the reference: best, before, clears, never ===== -/
noncomputable def bst (f : Nat → Int32) : Nat → Int32 × Int32
  | 0 => (-1, 0)
  | c + 1 => cif ((bst f c).1 < 0 ∨ (bst f c).2 < f c) (nI c, f c) (bst f c)
noncomputable def qbest (m : Int32) (A : XA) (F : Nat → Int32) : XR := cif (0 ≤ m ∧ m ≤ 60) (cif (nN A ^ kN A ≤ 3000) ((bst (fun c => wsum (A 1) (dg (nN A) (aft A m c)) (kN A)) (nN A ^ kN A)).1, A, F) (eR 3 A F)) (eR 1 A F)
def sX10_best : XS := fun as w post => ∃ (A : XA) (F : Nat → Int32) (m : Int32) (n k : Nat), as = [.ref 0, .int m] ∧ w = LM A F ∧ DI (A 1) n k ∧ TXO (A 1) 0 ∧ TXO (A 1) 1 ∧ sQ (qbest m A F) post
set_option maxRecDepth 10000 in
set_option maxHeartbeats 1000000 in
theorem mX10_best (d : Nat) (hd : 65 ≤ d) : xCT d yX10_best cX10_best 6 (some .int) sX10_best := by
  obtain ⟨d, rfl⟩ : ∃ e, d = e + 1 := ⟨d - 1, by omega⟩
  refine xmet (tb := tX10_best) (fl := fX10) (kc := nX10) (gs := g0) (cl := xlk [(65, false, 3, sX10_in), (128, true, 2, xrcv 10 (sX10_finds)), (230, true, 1, xrcv 10 (sX10_findAll)), (233, true, 2, xrcv 10 (sX10_findAt)), (224, true, 2, xrcv 10 (sX10_lays)), (201, true, 2, xrcv 10 (sX10_worthsOf))]) (by decide) tX10_best_ok fX10_ok nX10_ok g0_ok (xg_cons (k_X10_65 (mX10_in d (by omega))) (xg_cons (k_X10_128 (mX10_finds d (by omega))) (xg_cons (k_X10_230 (mX10_findAll d (by omega))) (xg_cons (k_X10_233 (mX10_findAt d (by omega))) (xg_cons (k_X10_224 (mX10_lays d (by omega))) (xg_cons (k_X10_201 (mX10_worthsOf d (by omega))) xg_nil)))))) ?_
  rintro L xs as w Qp ⟨A, F, m1, n, k, rfl, rfl, hI, hT, hT1, h⟩
  obtain ⟨hn, hn2, hn12, hk, hk8, -, -, -, -, -, b73, -⟩ := id hI
  obtain ⟨eN, eK⟩ := DI_nk hI
  unfold qbest at h
  rw [eN, eK] at h
  have hb : ∀ c, c < n ^ k → nx (A 1) n k c < n ^ k := fun c _ => (nx_v hn hn2 hn12 hk8 c).2
  have ha : ∀ c, c < n ^ k → aft A m1 c < n ^ k := fun c hc => by
    unfold aft
    rw [eN, eK]
    exact itN_lt hb c hc _
  refine ⟨Nat.le_of_ble_eq_true rfl, 400, xlk [(43, 5)], fun m pc ls st w => pc = 43 ∧ st = [] ∧ ∃ c A' F', c ≤ n ^ k ∧ n ^ k ≤ 3000 ∧ m = n ^ k - c ∧ ls = [(0, .ref 0), (1, .int m1), (2, .int (bst (fun c => wsum (A 1) (dg n (aft A m1 c)) k) c).1), (3, .int (bst (fun c => wsum (A 1) (dg n (aft A m1 c)) k) c).2), (4, .int (nI c))] ∧ w = LM A' F' ∧ BZ A F A' F' ∧ F' 21 = nI (n ^ k) ∧ (∀ c, c < n ^ k → A' 11 c = nI (aft A m1 c)) ∧ (0 ≤ m1 ∧ m1 ≤ 60), ?_, ?_⟩
  · refine ⟨m1, 0, 60, rfl, fun g1 g2 => ?_, fun g => ?_⟩
    · refine br_t xc_ne1 ?_
      rw [cif_t ⟨g1, g2⟩] at h
      refine ⟨A, F, n, k, rfl, rfl, hI, hT, fun h3 A' F' hB h21 h10 => ?_, fun h3 A' F' hB => ?_⟩
      · refine br_t xc_ne1 ?_
        obtain ⟨M, hM, eM⟩ := rg (c := 60) (by omega) g1 g2
        subst eM
        refine ⟨A', F', n ^ k, M, nx (A 1) n k, rfl, rfl, by omega, h3, h21, fun c hc => ⟨hb c hc, h10 c hc⟩, ?_⟩
        refine ⟨n ^ k, rfl, rfl, 0, _, F', Nat.zero_le _, h3, rfl, rfl, rfl, hB.t (BZ.a11 _ _ _), h21, fun c hc => ?_, ⟨g1, g2⟩⟩
        show cpU (fun i => nI (itN (nx (A 1) n k) M i)) (A' 11) (n ^ k) c = _
        unfold cpU aft
        rw [if_pos hc, eN, eK, cl (by omega)]
      · refine br_f xc_ne0 ?_
        refine ⟨A', F', 3, rfl, rfl, by decide, ?_⟩
        rw [cif_f h3] at h
        exact sQ_p h rfl (per_er hB.per 3)
    · refine br_f xc_ne0 ?_
      refine ⟨A, F, 1, rfl, rfl, by decide, ?_⟩
      exact sQ_e h (cif_f' g rfl)
  · rintro m pc m9 ls st w hc ⟨rfl, rfl, c, A', F', hcn, h3, rfl, rfl, rfl, hB, h21, h11, g12⟩
    rw [cif_t g12, cif_t h3] at h
    have e1 : A' 1 = A 1 := hB.one
    refine And.intro (fun g => ?_) (fun g => ?_)
    · have := ge_n h21 (by omega) (by omega) g
      have ec : c = n ^ k := by omega
      subst ec
      exact sQ_p h rfl hB.per
    · have hlt := nge_n h21 (by omega) (by omega) g
      have hx := ha c hlt
      have ex : A' 11 (nI c).toNatClampNeg = nI (aft A m1 c) := by rw [cl (by omega)]; exact h11 c hlt
      refine And.intro (vp_in_nI (by omega) (by decide)) ?_
      refine ⟨A', F', n, k, aft A m1 c, by rw [← ex], rfl, by rw [e1]; exact hn, hn2, hn12, by rw [e1]; exact hk, hk8, by omega, ?_⟩
      refine ⟨_, F', k, rfl, rfl, by show A' 1 2 = nI k; rw [e1]; exact hk, hk8, by show bd (A' 1 73) 51; rw [e1]; exact b73, by show TXO (A' 1) 1; rw [e1]; exact hT1, fun A2 F2 hS => ?_⟩
      have hB2 : BZ A F A2 F2 := (hB.t (BZ.a5 _ _ _)).t (BZ.sw hS)
      have e211 : A2 11 = A' 11 := hS.1 11 (by omega)
      have e221 : F2 21 = nI (n ^ k) := (hS.2 21 (by omega)).trans h21
      have ew : wsum (A' 1) (cpU (dg n (aft A m1 c)) (A' 5) k) k = wsum (A 1) (dg n (aft A m1 c)) k := by
        rw [e1]
        refine wsum_cg k (fun t ht => ?_)
        unfold cpU
        rw [if_pos ht]
      have hyes : (bst (fun c => wsum (A 1) (dg n (aft A m1 c)) k) c).1 < 0 ∨ (bst (fun c => wsum (A 1) (dg n (aft A m1 c)) k) c).2 < wsum (A 1) (dg n (aft A m1 c)) k → [(0, Value.ref 0), (1, Value.int m1), (2, Value.int (nI c)), (3, Value.int (wsum (A' 1) (cpU (dg n (aft A m1 c)) (A' 5) k) k)), (4, Value.int (nI c + 1))] = [(0, Value.ref 0), (1, Value.int m1), (2, Value.int (bst (fun c => wsum (A 1) (dg n (aft A m1 c)) k) (c + 1)).1), (3, Value.int (bst (fun c => wsum (A 1) (dg n (aft A m1 c)) k) (c + 1)).2), (4, Value.int (nI (c + 1)))] := by
        intro q
        have e : bst (fun c => wsum (A 1) (dg n (aft A m1 c)) k) (c + 1) = (nI c, wsum (A 1) (dg n (aft A m1 c)) k) := cif_t q
        rw [e, ew, nI_1]
      refine And.intro (fun g2 => ?_) (fun g2 => ?_)
      · have g2 : (bst (fun c => wsum (A 1) (dg n (aft A m1 c)) k) c).1 < 0 := g2
        exact ⟨n ^ k - (c + 1), by omega, rfl, rfl, c + 1, A2, F2, hlt, h3, rfl, hyes (Or.inl g2), rfl, hB2, e221, fun x hx => by rw [e211]; exact h11 x hx, g12⟩
      · have g2 : ¬ (bst (fun c => wsum (A 1) (dg n (aft A m1 c)) k) c).1 < 0 := g2
        refine And.intro (fun g3 => ?_) (fun g3 => ?_)
        · have g3 : wsum (A' 1) (cpU (dg n (aft A m1 c)) (A' 5) k) k ≤ (bst (fun c => wsum (A 1) (dg n (aft A m1 c)) k) c).2 := g3
          rw [ew] at g3
          have e : bst (fun c => wsum (A 1) (dg n (aft A m1 c)) k) (c + 1) = bst (fun c => wsum (A 1) (dg n (aft A m1 c)) k) c := cif_f (fun q => q.elim g2 (fun q => (fa_of_lt q).2.1 g3))
          exact ⟨n ^ k - (c + 1), by omega, rfl, rfl, c + 1, A2, F2, hlt, h3, rfl, by rw [e, ← nI_1]; rfl, rfl, hB2, e221, fun x hx => by rw [e211]; exact h11 x hx, g12⟩
        · have g3 : ¬ wsum (A' 1) (cpU (dg n (aft A m1 c)) (A' 5) k) k ≤ (bst (fun c => wsum (A 1) (dg n (aft A m1 c)) k) c).2 := g3
          rw [ew] at g3
          exact ⟨n ^ k - (c + 1), by omega, rfl, rfl, c + 1, A2, F2, hlt, h3, rfl, hyes (Or.inr (fa_of_nle g3)), rfl, hB2, e221, fun x hx => by rw [e211]; exact h11 x hx, g12⟩
noncomputable def qbefore (what : Int32) (A : XA) (F : Nat → Int32) : XR := cif (0 ≤ what ∧ what ≤ 1) (cif (nN A ^ kN A ≤ 3000) (cif (what = 0) (nI (cntP (fun c => nI (nx (A 1) (nN A) (kN A) c) = numF (A 1 1) (nw (A 1)) (kN A) 0) (nN A ^ kN A))) (firP (fun c => nI (nx (A 1) (nN A) (kN A) c) = numF (A 1 1) (nw (A 1)) (kN A) 0) (nN A ^ kN A)), A, F) (eR 3 A F)) (eR 1 A F)
def sX10_before : XS := fun as w post => ∃ (A : XA) (F : Nat → Int32) (what : Int32) (n k : Nat), as = [.ref 0, .int what] ∧ w = LM A F ∧ DI (A 1) n k ∧ TXO (A 1) 0 ∧ sQ (qbefore what A F) post
set_option maxRecDepth 10000 in
set_option maxHeartbeats 1000000 in
theorem mX10_before (d : Nat) (hd : 65 ≤ d) : xCT d yX10_before cX10_before 6 (some .int) sX10_before := by
  obtain ⟨d, rfl⟩ : ∃ e, d = e + 1 := ⟨d - 1, by omega⟩
  refine xmet (tb := tX10_before) (fl := fX10) (kc := nX10) (gs := g0) (cl := xlk [(65, false, 3, sX10_in), (128, true, 2, xrcv 10 (sX10_finds)), (230, true, 1, xrcv 10 (sX10_findAll)), (185, true, 2, xrcv 10 (sX10_begins)), (205, true, 2, xrcv 10 (sX10_numberOf))]) (by decide) tX10_before_ok fX10_ok nX10_ok g0_ok (xg_cons (k_X10_65 (mX10_in d (by omega))) (xg_cons (k_X10_128 (mX10_finds d (by omega))) (xg_cons (k_X10_230 (mX10_findAll d (by omega))) (xg_cons (k_X10_185 (mX10_begins d (by omega))) (xg_cons (k_X10_205 (mX10_numberOf d (by omega))) xg_nil))))) ?_
  rintro L xs as w Qp ⟨A, F, what, n, k, rfl, rfl, hI, hT, h⟩
  obtain ⟨hn, hn2, hn12, hk, hk8, -⟩ := id hI
  obtain ⟨eN, eK⟩ := DI_nk hI
  unfold qbefore at h
  rw [eN, eK] at h
  generalize ep : (fun c => nI (nx (A 1) n k c) = numF (A 1 1) (nw (A 1)) k 0) = p at h
  have ep : ∀ c, p c ↔ nI (nx (A 1) n k c) = numF (A 1 1) (nw (A 1)) k 0 := fun c => by rw [← ep]
  refine ⟨Nat.le_of_ble_eq_true rfl, 400, xlk [(54, 6)], fun m pc ls st w => pc = 54 ∧ st = [] ∧ ∃ c A' F', c ≤ n ^ k ∧ n ^ k ≤ 3000 ∧ m = n ^ k - c ∧ ls = [(0, .ref 0), (1, .int what), (2, .int (numF (A 1 1) (nw (A 1)) k 0)), (3, .int (nI (cntP p c))), (4, .int (firP p c)), (5, .int (nI c))] ∧ w = LM A' F' ∧ BZ A F A' F' ∧ F' 21 = nI (n ^ k) ∧ (∀ c, c < n ^ k → A' 10 c = nI (nx (A 1) n k c)) ∧ (0 ≤ what ∧ what ≤ 1), ?_, ?_⟩
  · refine ⟨what, 0, 1, rfl, fun g3 g4 => ?_, fun g => ?_⟩
    · refine br_t xc_ne1 ?_
      rw [cif_t ⟨g3, g4⟩] at h
      refine ⟨A, F, n, k, rfl, rfl, hI, hT, fun h3 A' F' hB h21 h10 => ?_, fun h3 A' F' hB => ?_⟩
      · refine br_t xc_ne1 ?_
        have e1 : A' 1 = A 1 := hB.one
        refine ⟨5, by omega, A', F', k, rfl, rfl, by rw [e1]; exact hk, hk8, ?_⟩
        refine ⟨_, F', k, rfl, rfl, by show A' 1 2 = nI k; rw [e1]; exact hk, hk8, ?_⟩
        have ev : numF (A' 1 1) (nts (A' 1) k (A' 5)) k 0 = numF (A 1 1) (nw (A 1)) k 0 := by
          rw [e1]
          exact numF_cg k 0 (nts_nw _)
        refine ⟨n ^ k, rfl, rfl, 0, _, F', Nat.zero_le _, h3, rfl, ?_, rfl, hB.t (BZ.a5 _ _ _), h21, h10, ⟨g3, g4⟩⟩
        rw [← ev]
        rfl
      · refine br_f xc_ne0 ?_
        refine ⟨A', F', 3, rfl, rfl, by decide, ?_⟩
        rw [cif_f h3] at h
        exact sQ_p h rfl (per_er hB.per 3)
    · refine br_f xc_ne0 ?_
      refine ⟨A, F, 1, rfl, rfl, by decide, ?_⟩
      exact sQ_e h (cif_f' g rfl)
  · rintro m pc m9 ls st w hc ⟨rfl, rfl, c, A', F', hcn, h3, rfl, rfl, rfl, hB, h21, h10, g34⟩
    rw [cif_t g34, cif_t h3] at h
    refine And.intro (fun g => ?_) (fun g => ?_)
    · have := ge_n h21 (by omega) (by omega) g
      have ec : c = n ^ k := by omega
      subst ec
      refine And.intro (fun g2 => ?_) (fun g2 => ?_)
      · have g2 : ¬ what = 0 := g2
        rw [cif_f g2] at h
        exact sQ_p h rfl hB.per
      · have g2 : what = 0 := Classical.byContradiction g2
        rw [cif_t g2] at h
        exact sQ_p h rfl hB.per
    · have hlt := nge_n h21 (by omega) (by omega) g
      have ex : A' 10 (nI c).toNatClampNeg = nI (nx (A 1) n k c) := by rw [cl (by omega)]; exact h10 c hlt
      refine And.intro (vp_in_nI (by omega) (by decide)) ?_
      have hnext : ∀ (x y : Int32), x = nI (cntP p (c + 1)) → y = firP p (c + 1) → [(0, Value.ref 0), (1, Value.int what), (2, Value.int (numF (A 1 1) (nw (A 1)) k 0)), (3, Value.int x), (4, Value.int y), (5, Value.int (nI c + 1))] = [(0, Value.ref 0), (1, Value.int what), (2, Value.int (numF (A 1 1) (nw (A 1)) k 0)), (3, Value.int (nI (cntP p (c + 1)))), (4, Value.int (firP p (c + 1))), (5, Value.int (nI (c + 1)))] := by
        rintro x y rfl rfl
        rw [nI_1]
      refine And.intro (fun g2 => ?_) (fun g2 => ?_)
      · have g2 : ¬ A' 10 (nI c).toNatClampNeg = numF (A 1 1) (nw (A 1)) k 0 := g2
        refine And.intro (vp_in_nI (by omega) (by decide)) ?_
        refine br_t g2 ?_
        rw [ex, ← ep] at g2
        refine ⟨n ^ k - (c + 1), by omega, rfl, rfl, c + 1, A', F', hlt, h3, rfl, hnext _ _ ?_ (Eq.symm (cif_f g2)), rfl, hB, h21, h10, g34⟩
        show nI (cntP p c) + 0 = _
        rw [Int32.add_zero]
        congr 1
        exact (cif_f g2).symm
      · have g2 : A' 10 (nI c).toNatClampNeg = numF (A 1 1) (nw (A 1)) k 0 := Classical.byContradiction g2
        refine And.intro (vp_in_nI (by omega) (by decide)) ?_
        refine br_f (fun q => q g2) ?_
        rw [ex, ← ep] at g2
        have ec : nI (cntP p c) + 1 = nI (cntP p (c + 1)) := by
          rw [nI_1]
          congr 1
          exact (cif_t g2).symm
        refine And.intro (fun g5 => ?_) (fun g5 => ?_)
        · have g5 : 0 ≤ firP p c := g5
          refine ⟨n ^ k - (c + 1), by omega, rfl, rfl, c + 1, A', F', hlt, h3, rfl, hnext _ _ ec ?_, rfl, hB, h21, h10, g34⟩
          refine Eq.symm ((cif_t g2).trans (cif_f ?_))
          exact fun q => (fa_of_lt q).2.1 g5
        · have g5 : ¬ 0 ≤ firP p c := g5
          refine ⟨n ^ k - (c + 1), by omega, rfl, rfl, c + 1, A', F', hlt, h3, rfl, hnext _ _ ec ?_, rfl, hB, h21, h10, g34⟩
          exact Eq.symm ((cif_t g2).trans (cif_t (fa_of_nle g5)))
def sX10_clears : XS := fun as w post => ∃ (A : XA) (F : Nat → Int32) (N : Nat), as = [.ref 0] ∧ w = LM A F ∧ N ≤ 3000 ∧ F 21 = nI N ∧ post none (LM (aset A 12 (cpU (fun _ => 0) (A 12) N)) F)
set_option maxRecDepth 10000 in
set_option maxHeartbeats 1000000 in
theorem mX10_clears (d : Nat) (hd : 0 ≤ d) : xCT d yX10_clears cX10_clears 2 none sX10_clears := by
  refine xmet (tb := tX10_clears) (fl := fX10) (kc := nX10) (gs := g0) (cl := xlk []) (by decide) tX10_clears_ok fX10_ok nX10_ok g0_ok xg_nil ?_
  rintro L xs as w Qp ⟨A, F, N, rfl, rfl, hN, h21, h⟩
  refine ⟨Nat.le_of_ble_eq_true rfl, 400, xlk [(2, 2)], fun m pc ls st w => pc = 2 ∧ st = [] ∧ ∃ i, i ≤ N ∧ m = N - i ∧ ls = [(0, .ref 0), (1, .int (nI i))] ∧ w = LM (aset A 12 (cpU (fun _ => 0) (A 12) i)) F, ?_, ?_⟩
  · exact ⟨N, rfl, rfl, 0, Nat.zero_le _, rfl, rfl, by rw [cpU_0, aset_eta]⟩
  · rintro m pc m9 ls st w hc ⟨rfl, rfl, i, hi, rfl, rfl, rfl⟩
    refine And.intro (fun g => ?_) (fun g => ?_)
    · have := ge_n h21 (by omega) (by omega) g
      rw [show i = N by omega]
      exact h
    · have hlt := nge_n h21 (by omega) (by omega) g
      refine And.intro (vp_in_nI (by omega) (by decide)) ?_
      refine ⟨N - (i + 1), by omega, rfl, rfl, i + 1, hlt, rfl, by rw [← nI_1]; rfl, ?_⟩
      refine (lset12 _ _ (cpU (fun _ => 0) (A 12) (i + 1)) ?_).trans ?_
      · rw [cl (by omega)]
        exact cpU_s (fun _ => 0) (A 12) i
      · rw [aset_aset]
/-- how many nobody sings but at the start, of N, c seen -/
noncomputable def nev (b : Nat → Nat) (N : Nat) : Nat → Int32
  | 0 => nI N
  | c + 1 => cif (∃ y, y < c ∧ b y = b c) (nev b N c) (nev b N c - 1)
noncomputable def qnever (A : XA) (F : Nat → Int32) : XR := cif (nN A ^ kN A ≤ 3000) (nev (nx (A 1) (nN A) (kN A)) (nN A ^ kN A) (nN A ^ kN A), A, F) (eR 3 A F)
def sX10_never : XS := fun as w post => ∃ (A : XA) (F : Nat → Int32) (n k : Nat), as = [.ref 0] ∧ w = LM A F ∧ DI (A 1) n k ∧ TXO (A 1) 0 ∧ sQ (qnever A F) post
set_option maxRecDepth 10000 in
set_option maxHeartbeats 1000000 in
theorem mX10_never (d : Nat) (hd : 65 ≤ d) : xCT d yX10_never cX10_never 3 (some .int) sX10_never := by
  obtain ⟨d, rfl⟩ : ∃ e, d = e + 1 := ⟨d - 1, by omega⟩
  refine xmet (tb := tX10_never) (fl := fX10) (kc := nX10) (gs := g0) (cl := xlk [(128, true, 2, xrcv 10 (sX10_finds)), (230, true, 1, xrcv 10 (sX10_findAll)), (239, true, 1, xrcv 10 (sX10_clears))]) (by decide) tX10_never_ok fX10_ok nX10_ok g0_ok (xg_cons (k_X10_128 (mX10_finds d (by omega))) (xg_cons (k_X10_230 (mX10_findAll d (by omega))) (xg_cons (k_X10_239 (mX10_clears d (by omega))) xg_nil))) ?_
  rintro L xs as w Qp ⟨A, F, n, k, rfl, rfl, hI, hT, h⟩
  obtain ⟨hn, hn2, hn12, hk, hk8, -⟩ := id hI
  obtain ⟨eN, eK⟩ := DI_nk hI
  unfold qnever at h
  rw [eN, eK] at h
  have hb : ∀ c, nx (A 1) n k c < n ^ k := fun c => (nx_v hn hn2 hn12 hk8 c).2
  generalize eb : nx (A 1) n k = b at h hb
  refine ⟨Nat.le_of_ble_eq_true rfl, 400, xlk [(24, 3)], fun m pc ls st w => pc = 24 ∧ st = [] ∧ ∃ c A' F', c ≤ n ^ k ∧ n ^ k ≤ 3000 ∧ m = n ^ k - c ∧ ls = [(0, .ref 0), (1, .int (nev b (n ^ k) c)), (2, .int (nI c))] ∧ w = LM A' F' ∧ BZ A F A' F' ∧ F' 21 = nI (n ^ k) ∧ (∀ c, c < n ^ k → A' 10 c = nI (b c)) ∧ (∀ x, x < n ^ k → (A' 12 x = 0 ↔ ¬ ∃ y, y < c ∧ b y = x)), ?_, ?_⟩
  · refine ⟨A, F, n, k, rfl, rfl, hI, hT, fun h3 A' F' hB h21 h10 => ?_, fun h3 A' F' hB => ?_⟩
    · refine br_t xc_ne1 ?_
      rw [eb] at h10
      refine ⟨A', F', n ^ k, rfl, rfl, h3, h21, ?_⟩
      refine ⟨n ^ k, rfl, rfl, 0, _, F', Nat.zero_le _, h3, rfl, by rw [show nev b (n ^ k) 0 = F' 21 from h21.symm]; rfl, rfl, hB.t (BZ.a12 _ _ _), h21, h10, fun x hx => ?_⟩
      have e : cpU (fun _ => (0 : Int32)) (A' 12) (n ^ k) x = 0 := if_pos hx
      exact ⟨fun _ ⟨y, hy, _⟩ => absurd hy (Nat.not_lt_zero _), fun _ => e⟩
    · refine br_f xc_ne0 ?_
      refine ⟨A', F', 3, rfl, rfl, by decide, ?_⟩
      rw [cif_f h3] at h
      exact sQ_p h rfl (per_er hB.per 3)
  · rintro m pc m9 ls st w hc ⟨rfl, rfl, c, A', F', hcn, h3, rfl, rfl, rfl, hB, h21, h10, h12⟩
    rw [cif_t h3] at h
    refine And.intro (fun g => ?_) (fun g => ?_)
    · have := ge_n h21 (by omega) (by omega) g
      have ec : c = n ^ k := by omega
      subst ec
      exact sQ_p h rfl hB.per
    · have hlt := nge_n h21 (by omega) (by omega) g
      have hbc := hb c
      have ex : A' 10 (nI c).toNatClampNeg = nI (b c) := by rw [cl (by omega)]; exact h10 c hlt
      have i1 : vp_in (nI c) 3000 := vp_in_nI (by omega) (by decide)
      have i2 : vp_in (A' 10 (nI c).toNatClampNeg) 3000 := by rw [ex]; exact vp_in_nI (by omega) (by decide)
      have ez : A' 12 (A' 10 (nI c).toNatClampNeg).toNatClampNeg = A' 12 (b c) := by rw [ex, cl (by omega)]
      have eu : upd (A' 12) (A' 10 (nI c).toNatClampNeg).toNatClampNeg 1 = upd (A' 12) (b c) 1 := by rw [ex, cl (by omega)]
      have h12' : ∀ x, x < n ^ k → (upd (A' 12) (b c) 1 x = 0 ↔ ¬ ∃ y, y < c + 1 ∧ b y = x) := by
        intro x hx
        by_cases q : x = b c
        · subst q
          rw [pk_us]
          exact ⟨fun q => absurd q x10, fun q => absurd ⟨c, Nat.lt_succ_self c, rfl⟩ q⟩
        · rw [pk_un q, h12 x hx]
          constructor
          · rintro q2 ⟨y, hy, ey⟩
            by_cases q3 : y = c
            · subst q3
              exact q ey.symm
            · exact q2 ⟨y, by omega, ey⟩
          · rintro q2 ⟨y, hy, ey⟩
            exact q2 ⟨y, by omega, ey⟩
      refine And.intro i1 (And.intro i2 ?_)
      refine And.intro (fun g2 => ?_) (fun g2 => ?_)
      · have g2 : ¬ A' 12 (A' 10 (nI c).toNatClampNeg).toNatClampNeg = 0 := g2
        rw [ez, h12 _ hbc] at g2
        refine And.intro i1 (And.intro i2 ?_)
        refine ⟨n ^ k - (c + 1), by omega, rfl, rfl, c + 1, _, F', hlt, h3, rfl, ?_, lset12 _ _ _ eu, hB.t (BZ.a12 _ _ _), h21, h10, h12'⟩
        show [(0, Value.ref 0), (1, Value.int (nev b (n ^ k) c - 0)), (2, Value.int (nI c + 1))] = _
        have e : nev b (n ^ k) (c + 1) = nev b (n ^ k) c := cif_t (Classical.byContradiction g2)
        rw [Int32.sub_zero, e, nI_1]
      · have g2 : A' 12 (A' 10 (nI c).toNatClampNeg).toNatClampNeg = 0 := Classical.byContradiction g2
        rw [ez, h12 _ hbc] at g2
        refine And.intro i1 (And.intro i2 ?_)
        refine ⟨n ^ k - (c + 1), by omega, rfl, rfl, c + 1, _, F', hlt, h3, rfl, ?_, lset12 _ _ _ eu, hB.t (BZ.a12 _ _ _), h21, h10, h12'⟩
        show [(0, Value.ref 0), (1, Value.int (nev b (n ^ k) c - 1)), (2, Value.int (nI c + 1))] = _
        have e : nev b (n ^ k) (c + 1) = nev b (n ^ k) c - 1 := cif_f g2
        rw [e, nI_1]
