/-! ===== the reference: sings, fewest, made ===== -/
/-- the rows by which bar i of sheet h is sung -/
def rwS (d g : Nat → Int32) (h k : Nat) : Nat → Nat → Int32
  | 0, t => d (8 + 8 * t + 2)
  | i + 1, t => g (40 * h + i * k + t)
/-- singer s sings what stands on sheet h -/
def SN (d g : Nat → Int32) (h k z s : Nat) : Prop := ∀ i, (i + 1) * k ≤ z → nxt d s (rwS d g h k i (fiN d s)) (rwS d g h k i (seN d s)) = g (40 * h + i * k + s)
def sX10_sings : XS := fun as w post => ∃ (A : XA) (F : Nat → Int32) (n k h s z : Nat), as = [.ref 0, .int (nI h), .int (nI s)] ∧ w = LM A F ∧ DI (A 1) n k ∧ TXO (A 1) 0 ∧ h < 4 ∧ s < k ∧ z ≤ 40 ∧ A 16 h = nI z ∧ (SN (A 1) (A 17) h k z s → ∀ A' F', SW A F A' F' → post (some (.int 1)) (LM A' F')) ∧ (¬ SN (A 1) (A 17) h k z s → ∀ A' F', SW A F A' F' → post (some (.int 0)) (LM A' F'))
theorem neg1m (x : Int32) : (nI 0 - 1) * x = -x := by
  rw [show nI 0 - (1 : Int32) = -1 from by decide, Int32.neg_mul, Int32.one_mul]
theorem addneg (a x s : Int32) : a + -x + x + s = a + s := by
  rw [Int32.add_assoc a, Int32.add_left_neg, Int32.add_zero]
theorem ixP (h i k t : Nat) : (40 : Int32) * nI h + (nI (i + 1) - 1) * nI k + nI t = nI (40 * h + i * k + t) := by
  rw [nI_pred, show (40 : Int32) = nI 40 from rfl, pk_mul, pk_mul, nI_add, nI_add]
theorem ixQ (h i k s : Nat) : (40 : Int32) * nI h + (nI i - 1) * nI k + nI k + nI s = nI (40 * h + i * k + s) := by
  cases i with
  | zero =>
    rw [neg1m, addneg, show (40 : Int32) = nI 40 from rfl, pk_mul, nI_add, Nat.zero_mul, Nat.add_zero]
  | succ i =>
    have e : (i + 1) * k = i * k + k := Nat.succ_mul i k
    rw [nI_pred, show (40 : Int32) = nI 40 from rfl, pk_mul, pk_mul, nI_add, nI_add, nI_add, e, ← Nat.add_assoc]
set_option maxRecDepth 10000 in
set_option maxHeartbeats 1000000 in
theorem mX10_sings (d : Nat) (hd : 63 ≤ d) : xCT d yX10_sings cX10_sings 8 (some .boolean) sX10_sings := by
  obtain ⟨d, rfl⟩ : ∃ e, d = e + 1 := ⟨d - 1, by omega⟩
  refine xmet (tb := tX10_sings) (fl := fX10) (kc := nX10) (gs := g0) (cl := xlk [(149, true, 3, xrcv 10 (sX10_its)), (168, true, 4, xrcv 10 (sX10_next))]) (by decide) tX10_sings_ok fX10_ok nX10_ok g0_ok (xg_cons (k_X10_149 (mX10_its d (by omega))) (xg_cons (k_X10_168 (mX10_next d (by omega))) xg_nil)) ?_
  rintro L xs as w Qp ⟨A, F, n, k, h, s, z, rfl, rfl, hI, hT, hh, hs, hz, e16, hy, hno⟩
  obtain ⟨hn, hn2, hn12, hk, hk8, hsg, -, -, -, b72, -⟩ := id hI
  obtain ⟨-, -, -, ⟨f, hf, ef⟩, ⟨e, he, ee⟩, -⟩ := hsg s hs
  have ef0 : fiN (A 1) s = f := by unfold fiN; rw [ef, cl (by omega)]
  have ee0 : seN (A 1) s = e := by unfold seN; rw [ee, cl (by omega)]
  refine ⟨Nat.le_of_ble_eq_true rfl, 400, xlk [(10, 5)], fun m pc ls st w => pc = 10 ∧ st = [] ∧ ∃ i A' F', i * k ≤ z ∧ m = 50 - i ∧ ls = [(0, .ref 0), (1, .int (nI h)), (2, .int (nI s)), (3, .int (nI k)), (4, .int (nI i))] ∧ w = LM A' F' ∧ SW A F A' F' ∧ (∀ j, j < i → nxt (A 1) s (rwS (A 1) (A 17) h k j f) (rwS (A 1) (A 17) h k j e) = A 17 (40 * h + j * k + s)), ?_, ?_⟩
  · refine And.intro (vl 2 250 rfl rfl) ?_
    refine ⟨50, rfl, rfl, 0, A, F, by rw [Nat.zero_mul]; exact Nat.zero_le _, rfl, ?_, rfl, SW.r _ _, fun j hj => absurd hj (Nat.not_lt_zero _)⟩
    rw [← hk]
    rfl
  · rintro m pc m9 ls st w hc ⟨rfl, rfl, i, A', F', hik, rfl, rfl, rfl, hS, hall⟩
    have hi40 : i ≤ 40 := by
      have : i * 1 ≤ i * k := Nat.mul_le_mul_left _ (by omega)
      omega
    have e1 : A' 1 = A 1 := hS.1 1 (by omega)
    have e17 : A' 17 = A 17 := hS.1 17 (by omega)
    have e16' : A' 16 (nI h).toNatClampNeg = nI z := by rw [cl (by omega), hS.1 16 (by omega)]; exact e16
    have eik : (nI i + 1) * nI k = nI ((i + 1) * k) := by rw [nI_1, pk_mul]
    have hbk : (i + 1) * k ≤ 41 * 8 := Nat.mul_le_mul (by omega) hk8
    refine And.intro (vp_in_nI (by omega) (by decide)) ?_
    refine And.intro (fun g => ?_) (fun g => ?_)
    · have g : A' 16 (nI h).toNatClampNeg < (nI i + 1) * nI k := g
      rw [e16', eik, fa_lt, nI_toInt (by omega), nI_toInt (by omega)] at g
      refine ⟨rfl, hy ?_ A' F' hS⟩
      intro j hj
      rw [ef0, ee0]
      refine hall j ?_
      rcases Nat.lt_or_ge j i with q | q
      · exact q
      · have : (i + 1) * k ≤ (j + 1) * k := Nat.mul_le_mul_right _ (by omega)
        omega
    · have g : ¬ A' 16 (nI h).toNatClampNeg < (nI i + 1) * nI k := g
      rw [e16', eik, fa_lt, nI_toInt (by omega), nI_toInt (by omega)] at g
      have hiz : (i + 1) * k ≤ z := by omega
      have hik2 : i * k + k ≤ z := by rw [← Nat.succ_mul]; exact hiz
      have ef' : A' 1 (8 + 8 * s + 3) = nI f := by rw [e1]; exact ef
      have ee' : A' 1 (8 + 8 * s + 4) = nI e := by rw [e1]; exact ee
      have eix : (40 : Int32) * nI h + (nI i - 1) * nI k + nI k + nI s = nI (40 * h + i * k + s) := ixQ h i k s
      have iix : vp_in ((40 : Int32) * nI h + (nI i - 1) * nI k + nI k + nI s) 160 := by
        rw [eix]
        exact vp_in_nI (by omega) (by decide)
      have fin : ∀ A2 F2, SW A' F' A2 F2 → ∀ (x y : Int32), x = rwS (A 1) (A 17) h k i f → y = rwS (A 1) (A 17) h k i e → (nxt (A' 1) s x y = A2 17 ((40 : Int32) * nI h + (nI i - 1) * nI k + nI k + nI s).toNatClampNeg ↔ nxt (A 1) s (rwS (A 1) (A 17) h k i f) (rwS (A 1) (A 17) h k i e) = A 17 (40 * h + i * k + s)) := by
        rintro A2 F2 h2 x y rfl rfl
        rw [eix, cl (by omega), e1, h2.1 17 (by omega), e17]
      have bad : ¬ nxt (A 1) s (rwS (A 1) (A 17) h k i f) (rwS (A 1) (A 17) h k i e) = A 17 (40 * h + i * k + s) → ¬ SN (A 1) (A 17) h k z s := by
        intro q1 q2
        have := q2 i hiz
        rw [ef0, ee0] at this
        exact q1 this
      have good : nxt (A 1) s (rwS (A 1) (A 17) h k i f) (rwS (A 1) (A 17) h k i e) = A 17 (40 * h + i * k + s) → ∀ j, j < i + 1 → nxt (A 1) s (rwS (A 1) (A 17) h k j f) (rwS (A 1) (A 17) h k j e) = A 17 (40 * h + j * k + s) := by
        intro q1 j hj
        by_cases q : j = i
        · subst q
          exact q1
        · exact hall j (by omega)
      refine And.intro (fun g2 => ?_) (fun g2 => ?_)
      · have g2 : ¬ nI i = 0 := g2
        have hi0 : 0 < i := by
          rcases Nat.eq_zero_or_pos i with q | q
          · subst q
            exact absurd rfl g2
          · exact q
        obtain ⟨t, et⟩ : ∃ t, i = t + 1 := ⟨i - 1, by omega⟩
        have htk : t * k + k = i * k := by rw [et, Nat.succ_mul]
        have iF : (40 : Int32) * nI h + (nI i - 1) * nI k + A' 1 (8 + 8 * s + 3) = nI (40 * h + t * k + f) := by rw [ef', et]; exact ixP h t k f
        have iE : (40 : Int32) * nI h + (nI i - 1) * nI k + A' 1 (8 + 8 * s + 4) = nI (40 * h + t * k + e) := by rw [ee', et]; exact ixP h t k e
        refine ⟨A', F', s, 3, rfl, rfl, by omega, ?_⟩
        refine And.intro (by show vp_in ((40 : Int32) * nI h + (nI i - 1) * nI k + A' 1 (8 + 8 * s + 3)) 160; rw [iF]; exact vp_in_nI (by omega) (by decide)) ?_
        refine br_t g2 ?_
        refine ⟨A', F', s, 4, rfl, rfl, by omega, ?_⟩
        refine And.intro (by show vp_in ((40 : Int32) * nI h + (nI i - 1) * nI k + A' 1 (8 + 8 * s + 4)) 160; rw [iE]; exact vp_in_nI (by omega) (by decide)) ?_
        refine ⟨A', F', s, n, A' 17 ((40 : Int32) * nI h + (nI i - 1) * nI k + A' 1 (8 + 8 * s + 3)).toNatClampNeg, A' 17 ((40 : Int32) * nI h + (nI i - 1) * nI k + A' 1 (8 + 8 * s + 4)).toNatClampNeg, rfl, rfl, by omega, by rw [e1]; exact hn, hn2, hn12, by rw [e1]; exact b72, by rw [e1]; exact hT, fun A2 F2 h2 => ?_⟩
        have fi := fin A2 F2 h2 (A' 17 ((40 : Int32) * nI h + (nI i - 1) * nI k + A' 1 (8 + 8 * s + 3)).toNatClampNeg) (A' 17 ((40 : Int32) * nI h + (nI i - 1) * nI k + A' 1 (8 + 8 * s + 4)).toNatClampNeg) (by rw [iF, cl (by omega), e17, et]; rfl) (by rw [iE, cl (by omega), e17, et]; rfl)
        refine And.intro iix ?_
        refine And.intro (fun g3 => ?_) (fun g3 => ?_)
        · have g3 := fi.mp g3
          exact ⟨50 - (i + 1), by omega, rfl, rfl, i + 1, A2, F2, hiz, rfl, by rw [← nI_1]; rfl, rfl, hS.t h2, good g3⟩
        · have g3 := bad (fun q => g3 (fi.mpr q))
          exact ⟨rfl, hno g3 A2 F2 (hS.t h2)⟩
      · have g2 : nI i = 0 := Classical.byContradiction g2
        have hi0 : i = 0 := by
          rcases Nat.eq_zero_or_pos i with q | q
          · exact q
          · exact absurd g2 (nI_ne0 q (by omega))
        refine ⟨A', F', s, 3, rfl, rfl, by omega, ?_⟩
        refine ⟨A', F', f, 2, by rw [ef']; rfl, rfl, by omega, ?_⟩
        refine br_f (fun q => q g2) ?_
        refine ⟨A', F', s, 4, rfl, rfl, by omega, ?_⟩
        refine ⟨A', F', e, 2, by rw [ee']; rfl, rfl, by omega, ?_⟩
        refine ⟨A', F', s, n, A' 1 (8 + 8 * f + 2), A' 1 (8 + 8 * e + 2), rfl, rfl, by omega, by rw [e1]; exact hn, hn2, hn12, by rw [e1]; exact b72, by rw [e1]; exact hT, fun A2 F2 h2 => ?_⟩
        have fi := fin A2 F2 h2 (A' 1 (8 + 8 * f + 2)) (A' 1 (8 + 8 * e + 2)) (by rw [hi0, e1]; rfl) (by rw [hi0, e1]; rfl)
        refine And.intro iix ?_
        refine And.intro (fun g3 => ?_) (fun g3 => ?_)
        · have g3 := fi.mp g3
          exact ⟨50 - (i + 1), by omega, rfl, rfl, i + 1, A2, F2, hiz, rfl, by rw [← nI_1]; rfl, rfl, hS.t h2, good g3⟩
        · have g3 := bad (fun q => g3 (fi.mpr q))
          exact ⟨rfl, hno g3 A2 F2 (hS.t h2)⟩
noncomputable def qfewest (s : Int32) (A : XA) (F : Nat → Int32) : XR := cif (isH s) (cif (A 15 s.toNatClampNeg = 0) (eR 2 A F) (nI (cntP (fun t => ¬ SN (A 1) (A 17) s.toNatClampNeg (kN A) (A 16 s.toNatClampNeg).toNatClampNeg t) (kN A)), A, F)) (eR 1 A F)
def sX10_fewest : XS := fun as w post => ∃ (A : XA) (F : Nat → Int32) (s : Int32) (n k : Nat), as = [.ref 0, .int s] ∧ w = LM A F ∧ DI (A 1) n k ∧ TXO (A 1) 0 ∧ SI A ∧ sQ (qfewest s A F) post
set_option maxRecDepth 10000 in
set_option maxHeartbeats 1000000 in
theorem mX10_fewest (d : Nat) (hd : 64 ≤ d) : xCT d yX10_fewest cX10_fewest 4 (some .int) sX10_fewest := by
  obtain ⟨d, rfl⟩ : ∃ e, d = e + 1 := ⟨d - 1, by omega⟩
  refine xmet (tb := tX10_fewest) (fl := fX10) (kc := nX10) (gs := g0) (cl := xlk [(175, false, 1, sX10_isSheet), (128, true, 2, xrcv 10 (sX10_finds)), (242, true, 3, xrcv 10 (sX10_sings))]) (by decide) tX10_fewest_ok fX10_ok nX10_ok g0_ok (xg_cons (k_X10_175 (mX10_isSheet d (by omega))) (xg_cons (k_X10_128 (mX10_finds d (by omega))) (xg_cons (k_X10_242 (mX10_sings d (by omega))) xg_nil))) ?_
  rintro L xs as w Qp ⟨A, F, s0, n, k, rfl, rfl, hI, hT, hS, h⟩
  obtain ⟨hn, hn2, hn12, hk, hk8, -⟩ := id hI
  obtain ⟨eN, eK⟩ := DI_nk hI
  refine ⟨Nat.le_of_ble_eq_true rfl, 400, xlk [(32, 4)], fun m pc ls st w => pc = 32 ∧ st = [] ∧ ∃ i z s A' F', i < 4 ∧ s0 = nI i ∧ z ≤ 40 ∧ A 16 i = nI z ∧ ¬ A 15 i = 0 ∧ s ≤ k ∧ m = k - s ∧ ls = [(0, .ref 0), (1, .int s0), (2, .int (nI (cntP (fun t => ¬ SN (A 1) (A 17) i k z t) s))), (3, .int (nI s))] ∧ w = LM A' F' ∧ SW A F A' F', ?_, ?_⟩
  · refine ⟨s0, rfl, fun i hi es => ?_, fun g => ?_⟩
    · subst es
      obtain ⟨z, hz, ez⟩ := hS i hi
      have e15 : A 15 (nI i).toNatClampNeg = A 15 i := by rw [cl (by omega)]
      refine br_t xc_ne1 ?_
      refine And.intro (vp_in_nI (by omega) (by decide)) ?_
      refine And.intro (fun g => ?_) (fun g => ?_)
      · have g : ¬ A 15 (nI i).toNatClampNeg = 0 := g
        rw [e15] at g
        exact ⟨k, rfl, rfl, i, z, 0, A, F, hi, rfl, by omega, ez, g, Nat.zero_le _, rfl, rfl, rfl, SW.r _ _⟩
      · have g : A 15 (nI i).toNatClampNeg = 0 := Classical.byContradiction g
        refine ⟨A, F, 2, rfl, rfl, by decide, ?_⟩
        exact sQ_e h (cif_t' (isH_i hi) (cif_t' g rfl))
    · refine br_f xc_ne0 ?_
      refine ⟨A, F, 1, rfl, rfl, by decide, ?_⟩
      exact sQ_e h (cif_f' (isH_n g) rfl)
  · rintro m pc m9 ls st w hc ⟨rfl, rfl, i, z, s, A', F', hi, rfl, hz, ez, hnz, hs, rfl, rfl, rfl, hW⟩
    have e1 : A' 1 = A 1 := hW.1 1 (by omega)
    have e17 : A' 17 = A 17 := hW.1 17 (by omega)
    have e16 : A' 16 = A 16 := hW.1 16 (by omega)
    have hk' : A' 1 2 = nI k := by rw [e1]; exact hk
    refine And.intro (vl 2 250 rfl rfl) ?_
    refine And.intro (fun g => ?_) (fun g => ?_)
    · have := ge_n hk' (by omega) (by omega) g
      have es : s = k := by omega
      subst es
      unfold qfewest at h
      rw [cif_t (isH_i hi), cl (by omega), cif_f hnz, eK, ez, cl (by omega)] at h
      exact sQ_p h rfl hW.per
    · have hlt := nge_n hk' (by omega) (by omega) g
      refine ⟨A', F', n, k, i, s, z, rfl, rfl, by rw [e1]; exact hI, by rw [e1]; exact hT, hi, hlt, hz, by rw [e16]; exact ez, fun hy A2 F2 h2 => ?_, fun hy A2 F2 h2 => ?_⟩
      · rw [e1, e17] at hy
        refine br_f xc_eq1 ?_
        refine ⟨k - (s + 1), by omega, rfl, rfl, i, z, s + 1, A2, F2, hi, rfl, hz, ez, hnz, hlt, rfl, ?_, rfl, hW.t h2⟩
        show [(0, Value.ref 0), (1, Value.int (nI i)), (2, Value.int (nI (cntP (fun t => ¬ SN (A 1) (A 17) i k z t) s) + 0)), (3, Value.int (nI s + 1))] = _
        have ec : cntP (fun t => ¬ SN (A 1) (A 17) i k z t) (s + 1) = cntP (fun t => ¬ SN (A 1) (A 17) i k z t) s := cif_f (fun q => q hy)
        rw [Int32.add_zero, nI_1, ec]
      · rw [e1, e17] at hy
        refine br_t xc_eq0 ?_
        refine ⟨k - (s + 1), by omega, rfl, rfl, i, z, s + 1, A2, F2, hi, rfl, hz, ez, hnz, hlt, rfl, ?_, rfl, hW.t h2⟩
        show [(0, Value.ref 0), (1, Value.int (nI i)), (2, Value.int (nI (cntP (fun t => ¬ SN (A 1) (A 17) i k z t) s) + 1)), (3, Value.int (nI s + 1))] = _
        have ec : cntP (fun t => ¬ SN (A 1) (A 17) i k z t) (s + 1) = cntP (fun t => ¬ SN (A 1) (A 17) i k z t) s + 1 := cif_t hy
        rw [nI_1, nI_1, ec]
theorem upd4 (d : Nat → Int32) {i j : Nat} (h : i ≠ j) (x y v w : Int32) : upd (upd (upd (upd d i x) j y) i v) j w = upd (upd d i v) j w := by
  rw [fa_upd_swap (upd d i x) (Ne.symm h) y v, fa_upd_twice, fa_upd_twice]
theorem upd2_id (d : Nat → Int32) (i j : Nat) : upd (upd d i (d i)) j (d j) = d := by
  rw [fa_upd_same (f := d) (i := i) rfl, fa_upd_same rfl]
theorem DIk {d : Nat → Int32} {n k s : Nat} (h : DI d n k) (hs : s < k) {x y : Int32} (hx : bd x 7) (hy : bd y 100) : DI (upd (upd d (8 + 8 * s + 0) x) (8 + 8 * s + 1) y) n k := by
  obtain ⟨h1, h2, h3, h4, h5, h6, h7, h8, h9, h10, h11, h12, h13⟩ := h
  have u : ∀ j, j ≠ 8 + 8 * s + 0 → j ≠ 8 + 8 * s + 1 → upd (upd d (8 + 8 * s + 0) x) (8 + 8 * s + 1) y j = d j := fun j ha hb => (pk_un hb).trans (pk_un ha)
  refine ⟨by rw [u 1 (by omega) (by omega)]; exact h1, h2, h3, by rw [u 2 (by omega) (by omega)]; exact h4, h5, fun i hi => ?_, by rw [u 0 (by omega) (by omega)]; exact h7, by rw [u 4 (by omega) (by omega)]; exact h8, by rw [u 5 (by omega) (by omega)]; exact h9, by rw [u 72 (by omega) (by omega)]; exact h10, by rw [u 73 (by omega) (by omega)]; exact h11, fun j hj => by rw [u _ (by omega) (by omega)]; exact h12 j hj, fun j hj => by rw [u _ (by omega) (by omega)]; exact h13 j hj⟩
  have hg := h6 i hi
  unfold SG at hg ⊢
  rw [u (8 + 8 * i + 2) (by omega) (by omega), u (8 + 8 * i + 3) (by omega) (by omega), u (8 + 8 * i + 4) (by omega) (by omega), u (8 + 8 * i + 5) (by omega) (by omega), u (8 + 8 * i + 6) (by omega) (by omega)]
  by_cases q : i = s
  · subst q
    refine ⟨?_, ?_, hg.2.2⟩
    · have e : upd (upd d (8 + 8 * i + 0) x) (8 + 8 * i + 1) y (8 + 8 * i) = x := (pk_un (by omega)).trans pk_us
      rw [e]
      exact hx
    · rw [pk_us]
      exact hy
  · rw [u (8 + 8 * i) (by omega) (by omega), u (8 + 8 * i + 1) (by omega) (by omega)]
    exact hg
theorem TXOk {d : Nat → Int32} {s v : Nat} (h : TXO d v) (hs : s < 8) (x y : Int32) : TXO (upd (upd d (8 + 8 * s + 0) x) (8 + 8 * s + 1) y) v := by
  unfold TXO at h ⊢
  have e : (fun j => upd (upd d (8 + 8 * s + 0) x) (8 + 8 * s + 1) y (96 + 50 * v + j)) = (fun j => d (96 + 50 * v + j)) := by
    funext j
    rw [pk_un (by omega), pk_un (by omega)]
  rw [e, pk_un (by omega), pk_un (by omega)]
  exact h
/-- the data with rule c of singer s -/
def mdD (d : Nat → Int32) (n s c : Nat) : Nat → Int32 := upd (upd d (8 + 8 * s + 0) (nI (c / n))) (8 + 8 * s + 1) (nI (c % n))
noncomputable def mdL (A : XA) (h s : Nat) : Nat := lead (fun c => ¬ SN (mdD (A 1) (nN A) s c) (A 17) h (kN A) (A 16 h).toNatClampNeg s) (6 * nN A)
noncomputable def mdV (A : XA) (h s : Nat) : Int32 := cif (SN (A 1) (A 17) h (kN A) (A 16 h).toNatClampNeg s) (100 * A 1 (8 + 8 * s + 0) + A 1 (8 + 8 * s + 1)) (cif (mdL A h s = 6 * nN A) (-1) (100 * nI (mdL A h s / nN A) + nI (mdL A h s % nN A)))
noncomputable def qmade (h s : Int32) (A : XA) (F : Nat → Int32) : XR := cif (isH h ∧ isS (A 1) s) (cif (A 15 h.toNatClampNeg = 0) (eR 2 A F) (cif (mdV A h.toNatClampNeg s.toNatClampNeg < 0) (eR 2 A F) (mdV A h.toNatClampNeg s.toNatClampNeg, A, F))) (eR 1 A F)
def sX10_made : XS := fun as w post => ∃ (A : XA) (F : Nat → Int32) (h s : Int32) (n k : Nat), as = [.ref 0, .int h, .int s] ∧ w = LM A F ∧ DI (A 1) n k ∧ TXO (A 1) 0 ∧ SI A ∧ sQ (qmade h s A F) post
def MZ (A : XA) (F : Nat → Int32) (A' : XA) (F' : Nat → Int32) : Prop := (∀ p, p ≠ 1 → p ≠ 4 → A' p = A p) ∧ FW F F'
theorem MZ.per {A A' : XA} {F F' : Nat → Int32} (h : MZ A F A' F') (h1 : A' 1 = A 1) : per A F A' F' := ⟨h1, h.1 2 (by omega) (by omega), h.1 3 (by omega) (by omega), h.1 14 (by omega) (by omega), h.1 15 (by omega) (by omega), h.1 16 (by omega) (by omega), h.1 17 (by omega) (by omega), h.2 2 (by omega), h.2 24 (by omega)⟩
set_option maxRecDepth 10000 in
set_option maxHeartbeats 1000000 in
theorem mX10_made (d : Nat) (hd : 64 ≤ d) : xCT d yX10_made cX10_made 7 (some .int) sX10_made := by
  obtain ⟨d, rfl⟩ : ∃ e, d = e + 1 := ⟨d - 1, by omega⟩
  refine xmet (tb := tX10_made) (fl := fX10) (kc := nX10) (gs := g0) (cl := xlk [(175, false, 1, sX10_isSheet), (163, true, 2, xrcv 10 (sX10_isSinger)), (128, true, 2, xrcv 10 (sX10_finds)), (149, true, 3, xrcv 10 (sX10_its)), (152, true, 4, xrcv 10 (sX10_becomes)), (242, true, 3, xrcv 10 (sX10_sings))]) (by decide) tX10_made_ok fX10_ok nX10_ok g0_ok (xg_cons (k_X10_175 (mX10_isSheet d (by omega))) (xg_cons (k_X10_163 (mX10_isSinger d (by omega))) (xg_cons (k_X10_128 (mX10_finds d (by omega))) (xg_cons (k_X10_149 (mX10_its d (by omega))) (xg_cons (k_X10_152 (mX10_becomes d (by omega))) (xg_cons (k_X10_242 (mX10_sings d (by omega))) xg_nil)))))) ?_
  rintro L xs as w Qp ⟨A, F, h0, s0, n, k, rfl, rfl, hI, hT, hS, hQ⟩
  obtain ⟨hn, hn2, hn12, hk, hk8, hsg, -⟩ := id hI
  obtain ⟨eN, eK⟩ := DI_nk hI
  refine ⟨Nat.le_of_ble_eq_true rfl, 400, xlk [(76, 7)], fun m pc ls st w => pc = 76 ∧ st = [] ∧ ∃ h s z c b A' F' x y, h < 4 ∧ h0 = nI h ∧ s < k ∧ s0 = nI s ∧ z ≤ 40 ∧ A 16 h = nI z ∧ ¬ A 15 h = 0 ∧ c ≤ 6 * n ∧ m = 100 - c ∧ ls = [(0, .ref 0), (1, .int h0), (2, .int s0), (3, .int (A 1 (8 + 8 * s + 0))), (4, .int (A 1 (8 + 8 * s + 1))), (5, .int b), (6, .int (nI c))] ∧ w = LM A' F' ∧ MZ A F A' F' ∧ A' 1 = upd (upd (A 1) (8 + 8 * s + 0) x) (8 + 8 * s + 1) y ∧ bd x 7 ∧ bd y 100 ∧ ((b = -1 ∧ ¬ SN (A 1) (A 17) h k z s ∧ lead (fun c => ¬ SN (mdD (A 1) n s c) (A 17) h k z s) c = c) ∨ (0 ≤ b ∧ mdV A h s = b)), ?_, ?_⟩
  · refine ⟨h0, rfl, fun h hh eh => ?_, fun g => ?_⟩
    · subst eh
      refine br_f xc_eq1 ?_
      refine ⟨A, F, s0, k, rfl, rfl, hk, hk8, fun s hs es => ?_, fun g => ?_⟩
      · subst es
        obtain ⟨z, hz, ez⟩ := hS h hh
        obtain ⟨⟨x, hx, ex⟩, ⟨y, hy, ey⟩, -⟩ := hsg s hs
        have ex : A 1 (8 + 8 * s + 0) = nI x := ex
        have e15 : A 15 (nI h).toNatClampNeg = A 15 h := by rw [cl (by omega)]
        refine br_t xc_ne1 ?_
        refine And.intro (vp_in_nI (by omega) (by decide)) ?_
        refine And.intro (fun g => ?_) (fun g => ?_)
        · have g : ¬ A 15 (nI h).toNatClampNeg = 0 := g
          rw [e15] at g
          refine ⟨A, F, s, 0, rfl, rfl, by omega, ?_⟩
          refine ⟨A, F, s, 1, rfl, rfl, by omega, ?_⟩
          refine ⟨A, F, n, k, h, s, z, rfl, rfl, hI, hT, hh, hs, by omega, ez, fun hy1 A2 F2 h2 => ?_, fun hy1 A2 F2 h2 => ?_⟩
          · refine br_f xc_eq1 ?_
            refine ⟨100, rfl, rfl, h, s, z, 0, _, A2, F2, A 1 (8 + 8 * s + 0), A 1 (8 + 8 * s + 1), hh, rfl, hs, rfl, by omega, ez, g, Nat.zero_le _, rfl, rfl, rfl, ⟨fun p _ p4 => h2.1 p p4, h2.2⟩, by rw [upd2_id]; exact h2.1 1 (by omega), ⟨x, hx, ex⟩, ⟨y, hy, ey⟩, Or.inr ⟨?_, ?_⟩⟩
            · show 0 ≤ 100 * A 1 (8 + 8 * s + 0) + A 1 (8 + 8 * s + 1)
              rw [ex, ey, show (100 : Int32) = nI 100 from rfl, pk_mul, nI_add]
              exact nI_pos' (by omega)
            · unfold mdV
              rw [eK, ez, cl (by omega), cif_t hy1]
              rfl
          · refine br_t xc_eq0 ?_
            exact ⟨100, rfl, rfl, h, s, z, 0, _, A2, F2, A 1 (8 + 8 * s + 0), A 1 (8 + 8 * s + 1), hh, rfl, hs, rfl, by omega, ez, g, Nat.zero_le _, rfl, rfl, rfl, ⟨fun p _ p4 => h2.1 p p4, h2.2⟩, by rw [upd2_id]; exact h2.1 1 (by omega), ⟨x, hx, ex⟩, ⟨y, hy, ey⟩, Or.inl ⟨rfl, hy1, rfl⟩⟩
        · have g : A 15 (nI h).toNatClampNeg = 0 := Classical.byContradiction g
          refine ⟨A, F, 2, rfl, rfl, by decide, ?_⟩
          exact sQ_e hQ (cif_t' ⟨isH_i hh, isS_i hk hk8 hs⟩ (cif_t' g rfl))
      · refine br_f xc_ne0 ?_
        refine ⟨A, F, 1, rfl, rfl, by decide, ?_⟩
        exact sQ_e hQ (cif_f' (fun q => isS_n hk hk8 g q.2) rfl)
    · refine br_t xc_eq0 ?_
      refine ⟨A, F, 1, rfl, rfl, by decide, ?_⟩
      exact sQ_e hQ (cif_f' (fun q => isH_n g q.1) rfl)
  · rintro m pc m9 ls st w hc ⟨rfl, rfl, h, s, z, c, b, A', F', x, y, hh, rfl, hs, rfl, hz, ez, hnz, hc6, rfl, rfl, rfl, hM, e1, hx, hy, hb⟩
    have en : A' 1 1 = nI n := by rw [e1, pk_un (by omega), pk_un (by omega)]; exact hn
    have e6 : (6 : Int32) * A' 1 1 = nI (6 * n) := by rw [en, show (6 : Int32) = nI 6 from rfl, pk_mul]
    unfold qmade at hQ
    rw [cif_t ⟨isH_i hh, isS_i hk hk8 hs⟩, cl (by omega), cif_f hnz, cl (by omega)] at hQ
    have back : aset (aset A' 1 (upd (A' 1) (8 + 8 * s + 0) (A 1 (8 + 8 * s + 0)))) 1 (upd (upd (A' 1) (8 + 8 * s + 0) (A 1 (8 + 8 * s + 0))) (8 + 8 * s + 1) (A 1 (8 + 8 * s + 1))) = aset A' 1 (A 1) := by
      rw [aset_aset, e1, upd4 _ (by omega), upd2_id]
    have hMb : per A F (aset A' 1 (A 1)) F' := MZ.per (A := A) ⟨fun p p1 p4 => (aset_n p1).trans (hM.1 p p1 p4), hM.2⟩ (aset_s _ _ _)
    refine And.intro (vl 1 250 rfl rfl) ?_
    refine And.intro (fun g => ?_) (fun g => ?_)
    · have := ge_n e6 (by omega) (by omega) g
      have ec : c = 6 * n := by omega
      refine ⟨A', F', s, 0, _, rfl, rfl, by omega, ?_⟩
      refine ⟨_, F', s, 1, _, rfl, rfl, by omega, ?_⟩
      rcases hb with ⟨eb, hns, hL⟩ | ⟨hb0, hb1⟩
      · have hv : mdV A h s = -1 := by
          unfold mdV mdL
          rw [eK, eN, ez, cl (by omega), cif_f hns, cif_t (by rw [← ec]; exact hL)]
        subst eb
        refine br_f (show ¬ (0 : Int32) ≤ -1 by decide) ?_
        rw [hv, cif_t (by decide)] at hQ
        refine ⟨aset A' 1 (A 1), F', 2, rfl, congrArg (fun B => LM B F') back, by decide, ?_⟩
        exact sQ_p hQ rfl (per_er hMb 2)
      · refine br_t hb0 ?_
        rw [hb1, cif_f (fun q => (fa_of_lt q).2.1 hb0)] at hQ
        have hq := sQ_p hQ rfl hMb
        rw [← back] at hq
        exact hq
    · have hlt := nge_n e6 (by omega) (by omega) g
      refine And.intro (fun g2 => ?_) (fun g2 => ?_)
      · have g2 : 0 ≤ b := g2
        refine ⟨A', F', s, 0, _, rfl, rfl, by omega, ?_⟩
        refine ⟨_, F', s, 1, _, rfl, rfl, by omega, ?_⟩
        rcases hb with ⟨eb, hns, hL⟩ | ⟨hb0, hb1⟩
        · rw [eb] at g2
          exact absurd g2 (by decide)
        · refine br_t hb0 ?_
          rw [hb1, cif_f (fun q => (fa_of_lt q).2.1 hb0)] at hQ
          have hq := sQ_p hQ rfl hMb
          rw [← back] at hq
          exact hq
      · have g2 : ¬ 0 ≤ b := g2
        rcases hb with ⟨eb, hns, hL⟩ | ⟨hb0, hb1⟩
        · have hz1 : ¬ A' 1 1 = 0 := by rw [en]; exact nI_ne0 (by omega) (by omega)
          have hcd : c / n < 6 := Nat.div_lt_of_lt_mul (by rw [Nat.mul_comm]; exact hlt)
          have hcm : c % n < n := Nat.mod_lt _ (by omega)
          have ed : nI c / A' 1 1 = nI (c / n) := by rw [en, pk_div (by omega) (by omega) (by omega)]
          refine And.intro (vl 1 250 rfl rfl) (And.intro hz1 ?_)
          refine ⟨A', F', s, 0, _, rfl, rfl, by omega, ?_⟩
          have en2 : upd (A' 1) (8 + 8 * s + 0) (nI c / A' 1 1) 1 = nI n := by rw [pk_un (by omega)]; exact en
          have hz2 : ¬ upd (A' 1) (8 + 8 * s + 0) (nI c / A' 1 1) 1 = 0 := by rw [en2]; exact nI_ne0 (by omega) (by omega)
          have em : nI c - nI c / upd (A' 1) (8 + 8 * s + 0) (nI c / A' 1 1) 1 * upd (A' 1) (8 + 8 * s + 0) (nI c / A' 1 1) 1 = nI (c % n) := by rw [en2, pk_rem (by omega) (by omega) (by omega)]
          refine And.intro (vl 1 250 rfl rfl) (And.intro hz2 ?_)
          refine ⟨_, F', s, 1, _, rfl, rfl, by omega, ?_⟩
          have eA : aset (aset A' 1 (upd (A' 1) (8 + 8 * s + 0) (nI c / A' 1 1))) 1 (upd (upd (A' 1) (8 + 8 * s + 0) (nI c / A' 1 1)) (8 + 8 * s + 1) (nI c - nI c / upd (A' 1) (8 + 8 * s + 0) (nI c / A' 1 1) 1 * upd (A' 1) (8 + 8 * s + 0) (nI c / A' 1 1) 1)) = aset A' 1 (mdD (A 1) n s c) := by
            rw [aset_aset, em, ed, e1, upd4 _ (by omega)]
            rfl
          have hD : DI (mdD (A 1) n s c) n k := DIk hI hs ⟨c / n, by omega, rfl⟩ ⟨c % n, by omega, rfl⟩
          have e17 : A' 17 = A 17 := hM.1 17 (by omega) (by omega)
          refine ⟨aset A' 1 (mdD (A 1) n s c), F', n, k, h, s, z, rfl, congrArg (fun B => LM B F') eA, hD, TXOk hT (by omega) _ _, hh, hs, hz, by show A' 16 h = nI z; rw [hM.1 16 (by omega) (by omega)]; exact ez, fun hy1 A2 F2 h2 => ?_, fun hy1 A2 F2 h2 => ?_⟩
          · have hy1 : SN (mdD (A 1) n s c) (A' 17) h k z s := hy1
            rw [e17] at hy1
            have e21 : A2 1 = mdD (A 1) n s c := h2.1 1 (by omega)
            have en3 : A2 1 1 = nI n := by rw [e21]; exact hD.1
            have hz3 : ¬ A2 1 1 = 0 := by rw [en3]; exact nI_ne0 (by omega) (by omega)
            refine br_f xc_eq1 ?_
            refine And.intro (vl 1 250 rfl rfl) (And.intro hz3 (And.intro (vl 1 250 rfl rfl) (And.intro hz3 ?_)))
            have ev : (100 : Int32) * (nI c / A2 1 1) + (nI c - nI c / A2 1 1 * A2 1 1) = 100 * nI (c / n) + nI (c % n) := by rw [en3, pk_rem (by omega) (by omega) (by omega), pk_div (by omega) (by omega) (by omega)]
            refine ⟨100 - (c + 1), by omega, rfl, rfl, h, s, z, c + 1, 100 * nI (c / n) + nI (c % n), A2, F2, nI (c / n), nI (c % n), hh, rfl, hs, rfl, hz, ez, hnz, hlt, rfl, ?_, rfl, ⟨fun p p1 p4 => (h2.1 p p4).trans ((aset_n p1).trans (hM.1 p p1 p4)), fun q hq => (h2.2 q hq).trans (hM.2 q hq)⟩, e21, ⟨c / n, by omega, rfl⟩, ⟨c % n, by omega, rfl⟩, Or.inr ⟨?_, ?_⟩⟩
            · rw [← ev, ← nI_1]
              rfl
            · rw [show (100 : Int32) = nI 100 from rfl, pk_mul, nI_add]
              exact nI_pos' (by omega)
            · have hs2 := lead_stop hL (p := fun c => ¬ SN (mdD (A 1) n s c) (A 17) h k z s) (fun g => g hy1) (6 * n) (by omega)
              have eL : mdL A h s = c := by
                unfold mdL
                rw [eK, eN, ez, cl (by omega)]
                exact hs2
              unfold mdV
              rw [eL, eK, eN, ez, cl (by omega), cif_f hns, cif_f (by omega)]
          · have hy1 : ¬ SN (mdD (A 1) n s c) (A' 17) h k z s := hy1
            rw [e17] at hy1
            have e21 : A2 1 = mdD (A 1) n s c := h2.1 1 (by omega)
            refine br_t xc_eq0 ?_
            exact ⟨100 - (c + 1), by omega, rfl, rfl, h, s, z, c + 1, -1, A2, F2, nI (c / n), nI (c % n), hh, rfl, hs, rfl, hz, ez, hnz, hlt, rfl, by rw [← nI_1]; rfl, rfl, ⟨fun p p1 p4 => (h2.1 p p4).trans ((aset_n p1).trans (hM.1 p p1 p4)), fun q hq => (h2.2 q hq).trans (hM.2 q hq)⟩, e21, ⟨c / n, by omega, rfl⟩, ⟨c % n, by omega, rfl⟩, Or.inl ⟨rfl, hns, lead_go hL hy1⟩⟩
        · exact absurd hb0 g2
