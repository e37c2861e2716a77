/-! ===== the reference: isWished, beginnings, best, before, clears, never ===== -/
def wsd (d : Nat → Int32) (n k c : Nat) : Prop := ∀ s, s < k → 0 ≤ d (8 + 8 * s + 5) → d (8 + 8 * s + 5) = dg n c s
def sX10_isWished : XS := fun as w post => ∃ (A : XA) (F : Nat → Int32) (n k c : Nat), as = [.ref 0, .int (nI c)] ∧ w = LM A F ∧ A 1 1 = nI n ∧ 2 ≤ n ∧ n ≤ 12 ∧ A 1 2 = nI k ∧ k ≤ 8 ∧ c < 2 ^ 31 ∧ (wsd (A 1) n k c → post (some (.int 1)) (LM (aset A 5 (cpU (dg n c) (A 5) k)) F)) ∧ (¬ wsd (A 1) n k c → post (some (.int 0)) (LM (aset A 5 (cpU (dg n c) (A 5) k)) F))
set_option maxRecDepth 10000 in
set_option maxHeartbeats 1000000 in
theorem mX10_isWished (d : Nat) (hd : 1 ≤ d) : xCT d yX10_isWished cX10_isWished 3 (some .boolean) sX10_isWished := by
  obtain ⟨d, rfl⟩ : ∃ e, d = e + 1 := ⟨d - 1, by omega⟩
  refine xmet (tb := tX10_isWished) (fl := fX10) (kc := nX10) (gs := g0) (cl := xlk [(224, true, 2, xrcv 10 (sX10_lays)), (149, true, 3, xrcv 10 (sX10_its))]) (by decide) tX10_isWished_ok fX10_ok nX10_ok g0_ok (xg_cons (k_X10_224 (mX10_lays d (by omega))) (xg_cons (k_X10_149 (mX10_its d (by omega))) xg_nil)) ?_
  rintro L xs as w Qp ⟨A, F, n, k, c, rfl, rfl, hn, hn2, hn12, hk, hk8, hc0, hy, hno⟩
  refine ⟨Nat.le_of_ble_eq_true rfl, 400, xlk [(7, 3)], fun m pc ls st w => pc = 7 ∧ st = [] ∧ ∃ s, s ≤ k ∧ m = k - s ∧ ls = [(0, .ref 0), (1, .int (nI c)), (2, .int (nI s))] ∧ w = LM (aset A 5 (cpU (dg n c) (A 5) k)) F ∧ ∀ t, t < s → 0 ≤ A 1 (8 + 8 * t + 5) → A 1 (8 + 8 * t + 5) = dg n c t, ?_, ?_⟩
  · refine ⟨A, F, n, k, c, rfl, rfl, hn, hn2, hn12, hk, hk8, hc0, ?_⟩
    exact ⟨k, rfl, rfl, 0, Nat.zero_le _, rfl, rfl, rfl, fun t ht => absurd ht (Nat.not_lt_zero _)⟩
  · rintro m pc m9 ls st w hc ⟨rfl, rfl, s, hs, rfl, rfl, rfl, hw⟩
    refine And.intro (vl 2 250 rfl rfl) ?_
    refine And.intro (fun g => ?_) (fun g => ?_)
    · have := ge_n hk (by omega) (by omega) g
      exact ⟨rfl, hy (fun t ht => hw t (by omega))⟩
    · have hlt := nge_n hk (by omega) (by omega) g
      refine ⟨_, F, s, 5, rfl, rfl, by omega, ?_⟩
      refine And.intro (fun g2 => ?_) (fun g2 => ?_)
      · have g2 : A 1 (8 + 8 * s + 5) < 0 := g2
        refine ⟨k - (s + 1), by omega, rfl, rfl, s + 1, hlt, rfl, by rw [← nI_1]; rfl, rfl, fun t ht h0 => ?_⟩
        by_cases q : t = s
        · subst q
          exact absurd h0 (fa_of_lt g2).2.1
        · exact hw t (by omega) h0
      · have g2 : ¬ A 1 (8 + 8 * s + 5) < 0 := g2
        refine ⟨_, F, s, 5, rfl, rfl, by omega, ?_⟩
        refine And.intro (vp_in_nI (by omega) (by decide)) ?_
        have ea : cpU (dg n c) (A 5) k (nI s).toNatClampNeg = dg n c s := by
          rw [cl (by omega)]
          unfold cpU
          rw [if_pos hlt]
        refine And.intro (fun g3 => ?_) (fun g3 => ?_)
        · have g3 : A 1 (8 + 8 * s + 5) = cpU (dg n c) (A 5) k (nI s).toNatClampNeg := g3
          rw [ea] at g3
          refine ⟨k - (s + 1), by omega, rfl, rfl, s + 1, hlt, rfl, by rw [← nI_1]; rfl, rfl, fun t ht h0 => ?_⟩
          by_cases q : t = s
          · subst q
            exact g3
          · exact hw t (by omega) h0
        · have g3 : ¬ A 1 (8 + 8 * s + 5) = cpU (dg n c) (A 5) k (nI s).toNatClampNeg := g3
          rw [ea] at g3
          exact ⟨rfl, hno (fun q => g3 (q s hlt (fa_of_nlt g2)))⟩
noncomputable def cntP (p : Nat → Prop) : Nat → Nat
  | 0 => 0
  | c + 1 => cif (p c) (cntP p c + 1) (cntP p c)
noncomputable def firP (p : Nat → Prop) : Nat → Int32
  | 0 => -1
  | c + 1 => cif (p c) (cif (firP p c < 0) (nI c) (firP p c)) (firP p c)
theorem cntP_le (p : Nat → Prop) : ∀ c, cntP p c ≤ c := by
  intro c
  induction c with
  | zero => exact Nat.le_refl _
  | succ c ih =>
    unfold cntP
    by_cases g : p c
    · rw [cif_t g]
      omega
    · rw [cif_f g]
      omega
def nN (A : XA) : Nat := (A 1 1).toNatClampNeg
def kN (A : XA) : Nat := (A 1 2).toNatClampNeg
noncomputable def aft (A : XA) (m : Int32) (c : Nat) : Nat := itN (nx (A 1) (nN A) (kN A)) m.toNatClampNeg c
noncomputable def qbeginnings (m what : Int32) (A : XA) (F : Nat → Int32) : XR := cif ((0 ≤ m ∧ m ≤ 60) ∧ (0 ≤ what ∧ what ≤ 1)) (cif (nN A ^ kN A ≤ 3000) (cif (what = 0) (nI (cntP (fun c => wsd (A 1) (nN A) (kN A) (aft A m c)) (nN A ^ kN A))) (firP (fun c => wsd (A 1) (nN A) (kN A) (aft A m c)) (nN A ^ kN A)), A, F) (eR 3 A F)) (eR 1 A F)
def sX10_beginnings : XS := fun as w post => ∃ (A : XA) (F : Nat → Int32) (m what : Int32) (n k : Nat), as = [.ref 0, .int m, .int what] ∧ w = LM A F ∧ DI (A 1) n k ∧ TXO (A 1) 0 ∧ sQ (qbeginnings m what A F) post
theorem DI_nk {A : XA} {n k : Nat} (h : DI (A 1) n k) : nN A = n ∧ kN A = k := by
  obtain ⟨hn, hn2, hn12, hk, hk8, -⟩ := h
  unfold nN kN
  rw [hn, hk]
  exact ⟨cl (by omega), cl (by omega)⟩
set_option maxRecDepth 10000 in
set_option maxHeartbeats 1000000 in
theorem mX10_beginnings (d : Nat) (hd : 65 ≤ d) : xCT d yX10_beginnings cX10_beginnings 7 (some .int) sX10_beginnings := by
  obtain ⟨d, rfl⟩ : ∃ e, d = e + 1 := ⟨d - 1, by omega⟩
  refine xmet (tb := tX10_beginnings) (fl := fX10) (kc := nX10) (gs := g0) (cl := xlk [(65, false, 3, sX10_in), (128, true, 2, xrcv 10 (sX10_finds)), (230, true, 1, xrcv 10 (sX10_findAll)), (233, true, 2, xrcv 10 (sX10_findAt)), (236, true, 2, xrcv 10 (sX10_isWished))]) (by decide) tX10_beginnings_ok fX10_ok nX10_ok g0_ok (xg_cons (k_X10_65 (mX10_in d (by omega))) (xg_cons (k_X10_128 (mX10_finds d (by omega))) (xg_cons (k_X10_230 (mX10_findAll d (by omega))) (xg_cons (k_X10_233 (mX10_findAt d (by omega))) (xg_cons (k_X10_236 (mX10_isWished d (by omega))) xg_nil))))) ?_
  rintro L xs as w Qp ⟨A, F, m1, what, n, k, rfl, rfl, hI, hT, h⟩
  obtain ⟨hn, hn2, hn12, hk, hk8, -⟩ := id hI
  obtain ⟨eN, eK⟩ := DI_nk hI
  unfold qbeginnings at h
  rw [eN, eK] at h
  have hb : ∀ c, c < n ^ k → nx (A 1) n k c < n ^ k := fun c _ => (nx_v hn hn2 hn12 hk8 c).2
  have ha : ∀ c, c < n ^ k → aft A m1 c < n ^ k := fun c hc => by
    unfold aft
    rw [eN, eK]
    exact itN_lt hb c hc _
  refine ⟨Nat.le_of_ble_eq_true rfl, 400, xlk [(54, 6)], fun m pc ls st w => pc = 54 ∧ st = [] ∧ ∃ c A' F', c ≤ n ^ k ∧ n ^ k ≤ 3000 ∧ m = n ^ k - c ∧ ls = [(0, .ref 0), (1, .int m1), (2, .int what), (3, .int (nI (cntP (fun c => wsd (A 1) n k (aft A m1 c)) c))), (4, .int (firP (fun c => wsd (A 1) n k (aft A m1 c)) c)), (5, .int (nI c))] ∧ w = LM A' F' ∧ BZ A F A' F' ∧ F' 21 = nI (n ^ k) ∧ (∀ c, c < n ^ k → A' 11 c = nI (aft A m1 c)) ∧ (0 ≤ m1 ∧ m1 ≤ 60) ∧ (0 ≤ what ∧ what ≤ 1), ?_, ?_⟩
  · refine ⟨m1, 0, 60, rfl, fun g1 g2 => ?_, fun g => ?_⟩
    · refine br_f xc_eq1 ?_
      refine ⟨what, 0, 1, rfl, fun g3 g4 => ?_, fun g => ?_⟩
      · refine br_t xc_ne1 ?_
        rw [cif_t ⟨⟨g1, g2⟩, ⟨g3, g4⟩⟩] at h
        refine ⟨A, F, n, k, rfl, rfl, hI, hT, fun h3 A' F' hB h21 h10 => ?_, fun h3 A' F' hB => ?_⟩
        · refine br_t xc_ne1 ?_
          obtain ⟨M, hM, eM⟩ := rg (c := 60) (by omega) g1 g2
          subst eM
          refine ⟨A', F', n ^ k, M, nx (A 1) n k, rfl, rfl, by omega, h3, h21, fun c hc => ⟨hb c hc, h10 c hc⟩, ?_⟩
          refine ⟨n ^ k, rfl, rfl, 0, _, F', Nat.zero_le _, h3, rfl, rfl, rfl, hB.t (BZ.a11 _ _ _), h21, fun c hc => ?_, ⟨g1, g2⟩, ⟨g3, g4⟩⟩
          show cpU (fun i => nI (itN (nx (A 1) n k) M i)) (A' 11) (n ^ k) c = _
          unfold cpU aft
          rw [if_pos hc, eN, eK, cl (by omega)]
        · refine br_f xc_ne0 ?_
          refine ⟨A', F', 3, rfl, rfl, by decide, ?_⟩
          rw [cif_f h3] at h
          exact sQ_p h rfl (per_er hB.per 3)
      · refine br_f xc_ne0 ?_
        refine ⟨A, F, 1, rfl, rfl, by decide, ?_⟩
        exact sQ_e h (cif_f' (fun q => g q.2) rfl)
    · refine br_t xc_eq0 ?_
      refine ⟨A, F, 1, rfl, rfl, by decide, ?_⟩
      exact sQ_e h (cif_f' (fun q => g q.1) rfl)
  · rintro m pc m9 ls st w hc ⟨rfl, rfl, c, A', F', hcn, h3, rfl, rfl, rfl, hB, h21, h11, g12, g34⟩
    rw [cif_t ⟨g12, g34⟩, cif_t h3] at h
    have e1 : A' 1 = A 1 := hB.one
    refine And.intro (fun g => ?_) (fun g => ?_)
    · have := ge_n h21 (by omega) (by omega) g
      have ec : c = n ^ k := by omega
      subst ec
      refine And.intro (fun g2 => ?_) (fun g2 => ?_)
      · have g2 : ¬ what = 0 := g2
        rw [cif_f g2] at h
        exact sQ_p h rfl hB.per
      · have g2 : what = 0 := Classical.byContradiction g2
        rw [cif_t g2] at h
        exact sQ_p h rfl hB.per
    · have hlt := nge_n h21 (by omega) (by omega) g
      have hx := ha c hlt
      have ex : A' 11 (nI c).toNatClampNeg = nI (aft A m1 c) := by rw [cl (by omega)]; exact h11 c hlt
      refine And.intro (vp_in_nI (by omega) (by decide)) ?_
      have hnext : ∀ (x y : Int32), x = nI (cntP (fun c => wsd (A 1) n k (aft A m1 c)) (c + 1)) → y = firP (fun c => wsd (A 1) n k (aft A m1 c)) (c + 1) → [(0, Value.ref 0), (1, Value.int m1), (2, Value.int what), (3, Value.int x), (4, Value.int y), (5, Value.int (nI c + 1))] = [(0, Value.ref 0), (1, Value.int m1), (2, Value.int what), (3, Value.int (nI (cntP (fun c => wsd (A 1) n k (aft A m1 c)) (c + 1)))), (4, Value.int (firP (fun c => wsd (A 1) n k (aft A m1 c)) (c + 1))), (5, Value.int (nI (c + 1)))] := by
        rintro x y rfl rfl
        rw [nI_1]
      refine ⟨A', F', n, k, aft A m1 c, by rw [← ex], rfl, by rw [e1]; exact hn, hn2, hn12, by rw [e1]; exact hk, hk8, by omega, fun hw => ?_, fun hw => ?_⟩
      · rw [e1] at hw
        refine br_f xc_eq1 ?_
        refine br_f xc_eq1 ?_
        have ec : nI (cntP (fun c => wsd (A 1) n k (aft A m1 c)) c) + 1 = nI (cntP (fun c => wsd (A 1) n k (aft A m1 c)) (c + 1)) := by
          rw [nI_1]
          congr 1
          exact (cif_t hw).symm
        refine And.intro (fun g2 => ?_) (fun g2 => ?_)
        · have g2 : 0 ≤ firP (fun c => wsd (A 1) n k (aft A m1 c)) c := g2
          refine ⟨n ^ k - (c + 1), by omega, rfl, rfl, c + 1, _, F', hlt, h3, rfl, hnext _ _ ec ?_, rfl, hB.t (BZ.a5 _ _ _), h21, h11, g12, g34⟩
          refine Eq.symm ((cif_t hw).trans (cif_f ?_))
          exact fun q => (fa_of_lt q).2.1 g2
        · have g2 : ¬ 0 ≤ firP (fun c => wsd (A 1) n k (aft A m1 c)) c := g2
          refine ⟨n ^ k - (c + 1), by omega, rfl, rfl, c + 1, _, F', hlt, h3, rfl, hnext _ _ ec ?_, rfl, hB.t (BZ.a5 _ _ _), h21, h11, g12, g34⟩
          exact Eq.symm ((cif_t hw).trans (cif_t (fa_of_nle g2)))
      · rw [e1] at hw
        refine br_t xc_eq0 ?_
        refine br_t xc_eq0 ?_
        refine ⟨n ^ k - (c + 1), by omega, rfl, rfl, c + 1, _, F', hlt, h3, rfl, hnext _ _ ?_ (Eq.symm (cif_f hw)), rfl, hB.t (BZ.a5 _ _ _), h21, h11, g12, g34⟩
        show nI (cntP (fun c => wsd (A 1) n k (aft A m1 c)) c) + 0 = _
        rw [Int32.add_zero]
        congr 1
        exact (cif_f hw).symm
