/-! ===== the reference: rings ===== -/
/-- the walk of number i, f steps at most -/
noncomputable def wk (b : Nat → Nat) (i : Nat) : Nat → (Nat → Int32) → Nat → (Nat → Int32) × Nat
  | 0, mm, a => (mm, a)
  | f + 1, mm, a => cif (mm a = 0) (wk b i f (upd mm a (nI (i + 1))) (b a)) (mm, a)
noncomputable def cyc (b : Nat → Nat) (N a : Nat) : Nat := 1 + lead (fun t => ¬ itN b (t + 1) a = a) (N - 1)
noncomputable def rgS (b : Nat → Nat) (N : Nat) : Nat → (Nat → Int32) × Int32 × Int32
  | 0 => (fun _ => 0, 0, 0)
  | i + 1 => cif ((wk b i N (rgS b N i).1 i).1 (wk b i N (rgS b N i).1 i).2 = nI (i + 1)) ((wk b i N (rgS b N i).1 i).1, (rgS b N i).2.1 + 1, cif (nI (cyc b N (wk b i N (rgS b N i).1 i).2) ≤ (rgS b N i).2.2) (rgS b N i).2.2 (nI (cyc b N (wk b i N (rgS b N i).1 i).2))) ((wk b i N (rgS b N i).1 i).1, (rgS b N i).2)
theorem wk_mk (b : Nat → Nat) (i : Nat) : ∀ f mm a x, (wk b i f mm a).1 x = mm x ∨ (wk b i f mm a).1 x = nI (i + 1) := by
  intro f
  induction f with
  | zero => exact fun mm a x => Or.inl rfl
  | succ f ih =>
    intro mm a x
    unfold wk
    by_cases g : mm a = 0
    · rw [cif_t g]
      rcases ih (upd mm a (nI (i + 1))) (b a) x with q | q
      · by_cases e : x = a
        · subst e
          rw [pk_us] at q
          exact Or.inr q
        · rw [pk_un e] at q
          exact Or.inl q
      · exact Or.inr q
    · rw [cif_f g]
      exact Or.inl rfl
theorem wk_end {b : Nat → Nat} {i f : Nat} {mm : Nat → Int32} {a : Nat} (h : ¬ mm a = 0) : wk b i f mm a = (mm, a) := by
  cases f with
  | zero => rfl
  | succ f => exact cif_f h
theorem rgS_mk (b : Nat → Nat) (N : Nat) : ∀ i x, (rgS b N i).1 x = 0 ∨ ∃ j, j < i ∧ (rgS b N i).1 x = nI (j + 1) := by
  intro i
  induction i with
  | zero => exact fun x => Or.inl rfl
  | succ i ih =>
    intro x
    have e : (rgS b N (i + 1)).1 = (wk b i N (rgS b N i).1 i).1 := by
      show (cif _ _ _ : (Nat → Int32) × Int32 × Int32).1 = _
      by_cases g : (wk b i N (rgS b N i).1 i).1 (wk b i N (rgS b N i).1 i).2 = nI (i + 1)
      · rw [cif_t g]
      · rw [cif_f g]
    rw [e]
    rcases wk_mk b i N (rgS b N i).1 i x with q | q
    · rw [q]
      rcases ih x with q2 | ⟨j, hj, q2⟩
      · exact Or.inl q2
      · exact Or.inr ⟨j, by omega, q2⟩
    · exact Or.inr ⟨i, by omega, q⟩
theorem itN_add (b : Nat → Nat) (c i : Nat) : ∀ a, itN b (a + c) i = itN b a (itN b c i) := by
  intro a
  induction a with
  | zero => rw [Nat.zero_add]; rfl
  | succ a ih =>
    rw [Nat.succ_add]
    show b (itN b (a + c) i) = b (itN b a (itN b c i))
    rw [ih]
noncomputable def qrings (what : Int32) (A : XA) (F : Nat → Int32) : XR := cif (0 ≤ what ∧ what ≤ 1) (cif (nN A ^ kN A ≤ 3000) (cif (what = 0) (rgS (nx (A 1) (nN A) (kN A)) (nN A ^ kN A) (nN A ^ kN A)).2.1 (rgS (nx (A 1) (nN A) (kN A)) (nN A ^ kN A) (nN A ^ kN A)).2.2, A, F) (eR 3 A F)) (eR 1 A F)
def sX10_rings : XS := fun as w post => ∃ (A : XA) (F : Nat → Int32) (what : Int32) (n k : Nat), as = [.ref 0, .int what] ∧ w = LM A F ∧ DI (A 1) n k ∧ TXO (A 1) 0 ∧ sQ (qrings what A F) post
set_option maxRecDepth 10000 in
set_option maxHeartbeats 1000000 in
theorem mX10_rings (d : Nat) (hd : 65 ≤ d) : xCT d yX10_rings cX10_rings 8 (some .int) sX10_rings := by
  obtain ⟨d, rfl⟩ : ∃ e, d = e + 1 := ⟨d - 1, by omega⟩
  refine xmet (tb := tX10_rings) (fl := fX10) (kc := nX10) (gs := g0) (cl := xlk [(65, false, 3, sX10_in), (128, true, 2, xrcv 10 (sX10_finds)), (230, true, 1, xrcv 10 (sX10_findAll)), (239, true, 1, xrcv 10 (sX10_clears))]) (by decide) tX10_rings_ok fX10_ok nX10_ok g0_ok (xg_cons (k_X10_65 (mX10_in d (by omega))) (xg_cons (k_X10_128 (mX10_finds d (by omega))) (xg_cons (k_X10_230 (mX10_findAll d (by omega))) (xg_cons (k_X10_239 (mX10_clears d (by omega))) xg_nil)))) ?_
  rintro L xs as w Qp ⟨A, F, what, n, k, rfl, rfl, hI, hT, h⟩
  obtain ⟨hn, hn2, hn12, hk, hk8, -⟩ := id hI
  obtain ⟨eN, eK⟩ := DI_nk hI
  unfold qrings at h
  rw [eN, eK] at h
  have hb : ∀ c, nx (A 1) n k c < n ^ k := fun c => (nx_v hn hn2 hn12 hk8 c).2
  generalize eb : nx (A 1) n k = b at h hb
  generalize eNN : n ^ k = N at h hb
  have hit : ∀ i, i < N → ∀ m, itN b m i < N := fun i hi => itN_lt (fun c _ => hb c) i hi
  refine ⟨Nat.le_of_ble_eq_true rfl, 400, xlk [(40, 5), (53, 6), (112, 8)], fun m pc ls st w => st = [] ∧ ∃ i A' F', N ≤ 3000 ∧ (0 ≤ what ∧ what ≤ 1) ∧ w = LM A' F' ∧ BZ A F A' F' ∧ F' 21 = nI N ∧ (∀ c, c < N → A' 10 c = nI (b c)) ∧ (
      (pc = 40 ∧ i ≤ N ∧ m = 10000 * (N - i) ∧ ls = [(0, .ref 0), (1, .int what), (2, .int (rgS b N i).2.1), (3, .int (rgS b N i).2.2), (4, .int (nI i))] ∧ ∀ x, x < N → A' 12 x = (rgS b N i).1 x)
    ∨ (pc = 53 ∧ i < N ∧ ∃ mm f r a, a < N ∧ m = 10000 * (N - (i + 1)) + 5000 + f ∧ ls = [(0, .ref 0), (1, .int what), (2, .int (rgS b N i).2.1), (3, .int (rgS b N i).2.2), (4, .int (nI i)), (5, .int (nI a))] ∧ (∀ x, x < N → A' 12 x = mm x) ∧ wk b i f mm a = wk b i N (rgS b N i).1 i ∧ cntP (fun x => mm x = 0) N ≤ f ∧ f + r = N ∧ a = itN b r i ∧ (∀ x, x < N → mm x = nI (i + 1) → ∃ q, q < r ∧ itN b q i = x))
    ∨ (pc = 112 ∧ i < N ∧ ∃ mm a t T, a < N ∧ m = 10000 * (N - (i + 1)) + 1000 + (T - (t + 1)) ∧ ls = [(0, .ref 0), (1, .int what), (2, .int (rgS b N i).2.1), (3, .int (rgS b N i).2.2), (4, .int (nI i)), (5, .int (nI a)), (6, .int (nI (t + 1))), (7, .int (nI (itN b (t + 1) a)))] ∧ (∀ x, x < N → A' 12 x = mm x) ∧ wk b i N (rgS b N i).1 i = (mm, a) ∧ mm a = nI (i + 1) ∧ T ≤ N ∧ t < T ∧ itN b T a = a ∧ lead (fun t => ¬ itN b (t + 1) a = a) t = t)), ?_, ?_⟩
  · refine ⟨what, 0, 1, rfl, fun g1 g2 => ?_, fun g => ?_⟩
    · refine br_t xc_ne1 ?_
      rw [cif_t ⟨g1, g2⟩] at h
      refine ⟨A, F, n, k, rfl, rfl, hI, hT, fun h3 A' F' hB h21 h10 => ?_, fun h3 A' F' hB => ?_⟩
      · rw [eNN] at h3 h21 h10
        rw [eb] at h10
        refine br_t xc_ne1 ?_
        refine ⟨A', F', N, rfl, rfl, h3, h21, ?_⟩
        refine ⟨10000 * N, rfl, 0, _, F', h3, ⟨g1, g2⟩, rfl, hB.t (BZ.a12 _ _ _), h21, h10, Or.inl ⟨rfl, Nat.zero_le _, rfl, rfl, fun x hx => ?_⟩⟩
        show cpU (fun _ => (0 : Int32)) (A' 12) N x = 0
        exact if_pos hx
      · rw [eNN] at h3
        refine br_f xc_ne0 ?_
        refine ⟨A', F', 3, rfl, rfl, by decide, ?_⟩
        rw [cif_f h3] at h
        exact sQ_p h rfl (per_er hB.per 3)
    · refine br_f xc_ne0 ?_
      refine ⟨A, F, 1, rfl, rfl, by decide, ?_⟩
      exact sQ_e h (cif_f' g rfl)
  · rintro m pc m9 ls st w hc ⟨rfl, i, A', F', h3, g12, rfl, hB, h21, h10, ⟨rfl, hi, rfl, rfl, h12⟩ | ⟨rfl, hi, mm, f, r, a, ha, rfl, rfl, h12, hw, hcf, hfr, ear, hmk⟩ | ⟨rfl, hi, mm, a, t, T, ha, rfl, rfl, h12, hw, hma, hTN, htT, hTa, hL⟩⟩
    · rw [cif_t g12, cif_t h3] at h
      refine And.intro (fun g => ?_) (fun g => ?_)
      · have := ge_n h21 (by omega) (by omega) g
        have ei : i = N := by omega
        rw [← ei] at h
        refine And.intro (fun g2 => ?_) (fun g2 => ?_)
        · have g2 : ¬ what = 0 := g2
          rw [cif_f g2, ei] at h
          rw [ei]
          exact sQ_p h rfl hB.per
        · have g2 : what = 0 := Classical.byContradiction g2
          rw [cif_t g2, ei] at h
          rw [ei]
          exact sQ_p h rfl hB.per
      · have hlt := nge_n h21 (by omega) (by omega) g
        refine ⟨10000 * (N - (i + 1)) + 5000 + N, by omega, rfl, i, A', F', h3, g12, rfl, hB, h21, h10, Or.inr (Or.inl ⟨rfl, hlt, (rgS b N i).1, N, 0, i, hlt, rfl, rfl, h12, rfl, cntP_le _ _, rfl, rfl, fun x hx q => ?_⟩)⟩
        rcases rgS_mk b N i x with q2 | ⟨j, hj, q2⟩
        · rw [q2] at q
          exact absurd q.symm (nI_ne0 (by omega) (by omega))
        · rw [q2] at q
          have := nI_inj (by omega) (by omega) q
          omega
    · have e12 : A' 12 (nI a).toNatClampNeg = mm a := by rw [cl (by omega)]; exact h12 a ha
      have i1 : vp_in (nI a) 3000 := vp_in_nI (by omega) (by decide)
      refine And.intro i1 ?_
      refine And.intro (fun g => ?_) (fun g => ?_)
      · have g : ¬ A' 12 (nI a).toNatClampNeg = 0 := g
        rw [e12] at g
        rw [wk_end g] at hw
        refine And.intro i1 ?_
        refine And.intro (fun g2 => ?_) (fun g2 => ?_)
        · have g2 : ¬ A' 12 (nI a).toNatClampNeg = nI i + 1 := g2
          rw [e12, nI_1] at g2
          have e : rgS b N (i + 1) = (mm, (rgS b N i).2) := by
            show cif _ _ _ = _
            rw [← hw, cif_f g2]
          refine ⟨10000 * (N - (i + 1)), by omega, rfl, i + 1, A', F', h3, g12, rfl, hB, h21, h10, Or.inl ⟨rfl, hi, rfl, ?_, fun x hx => by rw [e]; exact h12 x hx⟩⟩
          rw [e, ← nI_1]
          rfl
        · have g2 : A' 12 (nI a).toNatClampNeg = nI i + 1 := Classical.byContradiction g2
          rw [e12, nI_1] at g2
          obtain ⟨q, hq, eq⟩ := hmk a ha g2
          refine And.intro i1 ?_
          have hT : itN b (r - q) a = a := by
            have := itN_add b q i (r - q)
            rw [eq, show r - q + q = r by omega, ← ear] at this
            exact this.symm
          have e10 : A' 10 (nI a).toNatClampNeg = nI (itN b (0 + 1) a) := by rw [cl (by omega)]; exact h10 a ha
          refine ⟨10000 * (N - (i + 1)) + 1000 + ((r - q) - (0 + 1)), by omega, rfl, i, A', F', h3, g12, rfl, hB, h21, h10, Or.inr (Or.inr ⟨rfl, hi, mm, a, 0, r - q, ha, rfl, ?_, h12, hw.symm, g2, by omega, by omega, hT, rfl⟩)⟩
          rw [← e10]
          rfl
      · have g : A' 12 (nI a).toNatClampNeg = 0 := Classical.byContradiction g
        rw [e12] at g
        have hcu := cntP_upd (x := nI (i + 1)) g (nI_ne0 (by omega) (by omega)) ha
        obtain ⟨f', ef⟩ : ∃ f', f = f' + 1 := ⟨f - 1, by omega⟩
        have hw2 : wk b i f' (upd mm a (nI (i + 1))) (b a) = wk b i N (rgS b N i).1 i := by
          rw [← hw, ef]
          exact (cif_t g).symm
        refine And.intro i1 (And.intro i1 ?_)
        have e10 : A' 10 (nI a).toNatClampNeg = nI (b a) := by rw [cl (by omega)]; exact h10 a ha
        have eu : upd (A' 12) (nI a).toNatClampNeg (nI i + 1) = upd (A' 12) a (nI (i + 1)) := by rw [cl (by omega), nI_1]
        refine ⟨10000 * (N - (i + 1)) + 5000 + f', by omega, rfl, i, _, F', h3, g12, lset12 _ _ _ eu, hB.t (BZ.a12 _ _ _), h21, h10, Or.inr (Or.inl ⟨rfl, hi, upd mm a (nI (i + 1)), f', r + 1, b a, hb a, rfl, ?_, fun x hx => ?_, hw2, by omega, by omega, by rw [ear]; rfl, fun x hx q => ?_⟩)⟩
        · rw [← e10]
          rfl
        · exact upd_cg h12 x hx
        · by_cases e : x = a
          · exact ⟨r, by omega, by rw [e, ear]⟩
          · rw [pk_un e] at q
            obtain ⟨q2, hq2, eq2⟩ := hmk x hx q
            exact ⟨q2, by omega, eq2⟩
    · refine And.intro (fun g => ?_) (fun g => ?_)
      · have g : nI (itN b (t + 1) a) = nI a := g
        have ht := hit a ha (t + 1)
        have g := nI_inj (by omega) (by omega) g
        have eC : cyc b N a = t + 1 := by
          unfold cyc
          rw [lead_stop hL (p := fun t => ¬ itN b (t + 1) a = a) (fun q => q g) (N - 1) (by omega)]
          omega
        have i1 : vp_in (nI a) 3000 := vp_in_nI (by omega) (by decide)
        have e : rgS b N (i + 1) = (mm, (rgS b N i).2.1 + 1, cif (nI (t + 1) ≤ (rgS b N i).2.2) (rgS b N i).2.2 (nI (t + 1))) := by
          show cif _ _ _ = _
          rw [hw, cif_t hma]
          show (mm, (rgS b N i).2.1 + 1, cif (nI (cyc b N a) ≤ (rgS b N i).2.2) (rgS b N i).2.2 (nI (cyc b N a))) = _
          rw [eC]
        have eu : upd (A' 12) (nI a).toNatClampNeg (nI i + 1) = upd (A' 12) a (nI (i + 1)) := by rw [cl (by omega), nI_1]
        have h12' : ∀ x, x < N → upd (A' 12) a (nI (i + 1)) x = mm x := by
          intro x hx
          by_cases q : x = a
          · subst q
            rw [pk_us, hma]
          · rw [pk_un q]
            exact h12 x hx
        refine And.intro (fun g2 => ?_) (fun g2 => ?_)
        · have g2 : nI (t + 1) ≤ (rgS b N i).2.2 := g2
          rw [cif_t g2] at e
          refine And.intro i1 ?_
          refine ⟨10000 * (N - (i + 1)), by omega, rfl, i + 1, _, F', h3, g12, lset12 _ _ _ eu, hB.t (BZ.a12 _ _ _), h21, h10, Or.inl ⟨rfl, hi, rfl, ?_, fun x hx => by rw [e]; exact h12' x hx⟩⟩
          rw [e, ← nI_1 i]
          rfl
        · have g2 : ¬ nI (t + 1) ≤ (rgS b N i).2.2 := g2
          rw [cif_f g2] at e
          refine And.intro i1 ?_
          refine ⟨10000 * (N - (i + 1)), by omega, rfl, i + 1, _, F', h3, g12, lset12 _ _ _ eu, hB.t (BZ.a12 _ _ _), h21, h10, Or.inl ⟨rfl, hi, rfl, ?_, fun x hx => by rw [e]; exact h12' x hx⟩⟩
          rw [e, ← nI_1 i]
          rfl
      · have g : ¬ nI (itN b (t + 1) a) = nI a := g
        have ht := hit a ha (t + 1)
        have g2 : ¬ itN b (t + 1) a = a := fun q => g (by rw [q])
        have htT2 : t + 1 < T := by
          rcases Nat.lt_or_ge (t + 1) T with q | q
          · exact q
          · have : T = t + 1 := by omega
            rw [this] at hTa
            exact absurd hTa g2
        refine And.intro (vp_in_nI (by omega) (by decide)) ?_
        have e10 : A' 10 (nI (itN b (t + 1) a)).toNatClampNeg = nI (itN b (t + 1 + 1) a) := by rw [cl (by omega)]; exact h10 _ ht
        refine ⟨10000 * (N - (i + 1)) + 1000 + (T - (t + 1 + 1)), by omega, rfl, i, A', F', h3, g12, rfl, hB, h21, h10, Or.inr (Or.inr ⟨rfl, hi, mm, a, t + 1, T, ha, rfl, ?_, h12, hw, hma, hTN, htT2, hTa, lead_go hL g2⟩)⟩
        rw [← e10, ← nI_1 (t + 1)]
        rfl
