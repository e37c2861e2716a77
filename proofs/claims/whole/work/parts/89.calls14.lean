/-! ===== the class's calls: tunes ===== -/
def sX9_writeTuneNotes : XS := fun as w post => ∃ (s t u : Bool) (A : XA) (F : Nat → Int32) (mA : XA) (mF : Nat → Int32) (c n k m : Nat), as = [.ref 0, .int (nI m)] ∧ w = CW s t u A F ∧ CI mA mF n k ∧ Rel mA mF A F ∧ Aux (mA 1) A F c ∧ m ≤ 140 ∧ ∀ s' A', Rel mA mF A' F → Aux (mA 1) A' F c → (∀ b i, b < m → i < k → A' 81 (8 * b + i) = itr (mA 1) k b (nw (mA 1)) i) → post none (CW s' t u A' F)
theorem cwset81 {s t u : Bool} {A : XA} {F f f' : Nat → Int32} (h : f = f') : List.set (CW s t u A F) 81 (.inl (0, 1120, .inl f)) = CW s t u (aset A 81 f') F := by
  subst h
  rfl
set_option maxRecDepth 10000 in
set_option maxHeartbeats 1000000 in
theorem mX9_writeTuneNotes (d : Nat) (hd : 5 ≤ d) : xCT d yX9_writeTuneNotes cX9_writeTuneNotes 3 none sX9_writeTuneNotes := by
  obtain ⟨d, rfl⟩ : ∃ e, d = e + 1 := ⟨d - 1, by omega⟩
  refine xmet (tb := tX9_writeTuneNotes) (fl := fX9) (kc := nX9) (gs := g0) (cl := xlk [(209, true, 2, xrcv 5 (sX5_startFrom_Wr)), (213, true, 4, xrcv 5 (sX5_goOn_Wr)), (342, false, 5, xCpy)]) (by decide) tX9_writeTuneNotes_ok fX9_ok nX9_ok g0_ok (xg_cons (k_X9_209 (mX5_startFrom_Wr d (by omega))) (xg_cons (k_X9_213 (mX5_goOn_Wr d (by omega))) (xg_cons (k_X9_342_copy (xrm_ok d)) xg_nil))) ?_
  rintro L xs as w Qp ⟨s, t, u, A, F, mA, mF, c, n, k, m1, rfl, rfl, hC, hR, hX, hm1, h⟩
  obtain ⟨hn, hn2, hn12, hk, hk8, hF11, hF12, hA, hKV, h54, h58⟩ := ctx hC hR hX
  refine ⟨Nat.le_of_ble_eq_true rfl, 400, xlk [(16, 3)], fun m pc ls st w => pc = 16 ∧ st = [] ∧ ∃ l s' A', l ≤ m1 ∧ m = m1 - l ∧ ls = [(0, .ref 0), (1, .int (nI m1)), (2, .int (nI l))] ∧ w = CW s' t u A' F ∧ Rel mA mF A' F ∧ Aux (mA 1) A' F c ∧ (∀ q, q < k → A' (rp s') q = itr (mA 1) k l (nw (mA 1)) q) ∧ (∀ q, q < k → bd (A' (rp s') q) n) ∧ (∀ b i, b < l → i < k → A' 81 (8 * b + i) = itr (mA 1) k b (nw (mA 1)) i), ?_, ?_⟩
  · refine ⟨s, t, u, A, F, rfl, rfl, fun A1 e1 => ?_⟩
    obtain ⟨hS1, hC1, hK1, hr1, hb1, hR1, hX1⟩ := run0 hC hR hX (rpS s).1 (rpS s).2.1 (rpS s).2.2 e1
    exact ⟨m1, rfl, rfl, 0, s, A1, Nat.zero_le _, rfl, rfl, rfl, hR1, hX1, hr1, hb1, fun b i hb => absurd hb (Nat.not_lt_zero _)⟩
  · rintro m pc m9 ls st w hc9 ⟨rfl, rfl, l, s', A', hl, rfl, rfl, rfl, hR', hX', hrp, hbp, ht⟩
    obtain ⟨_, _, _, _, _, _, _, _, hKV', _, _⟩ := ctx hC hR' hX'
    refine And.intro (fun g => ?_) (fun g => ?_)
    · have := ge_n (k := m1) rfl (by omega) (by omega) g
      exact h s' A' hR' hX' (fun b i hb hi => ht b i (by omega) hi)
    · have hlt := nge_n (k := m1) rfl (by omega) (by omega) g
      have e8 : nI l * 8 = nI (8 * l) := by rw [show (8 : Int32) = nI 8 from rfl, pk_mul, Nat.mul_comm]
      have ecl : (nI l * 8).toNatClampNeg = 8 * l := by rw [e8, cl (by omega)]
      have cc : ¬ (0 : Int32) < 0 ∧ ¬ nI l * 8 < 0 ∧ ¬ (8 : Int32) < 0 ∧ (0 : Int32).toNatClampNeg + (8 : Int32).toNatClampNeg ≤ 8 ∧ (nI l * 8).toNatClampNeg + (8 : Int32).toNatClampNeg ≤ 1120 := ⟨by decide, by rw [e8]; exact fun q => (fa_of_lt q).2.1 (nI_pos' (by omega)), by decide, by decide, by rw [ecl]; show 8 * l + 8 ≤ 1120; omega⟩
      have ec : ∀ f g : Nat → Int32, va_cpy f g (0 : Int32).toNatClampNeg (nI l * 8).toNatClampNeg (8 : Int32).toNatClampNeg = va_cpy f g 0 (8 * l) 8 := fun f g => by rw [ecl]; rfl
      have hS1 : sm [81] (aset A' 81 (va_cpy (A' (rp s')) (A' 81) 0 (8 * l) 8)) A' := sm_aset rfl
      obtain ⟨hR1, hX1⟩ := run1 hC hR' hX' hS1 (by decide) rfl (KV_cg hKV' (fun t ht => hS1 (39 + t) (row8 (by omega) (by decide))))
      obtain ⟨_, _, _, _, _, _, _, _, hKV1, _, _⟩ := ctx hC hR1 hX1
      have erp : aset A' 81 (va_cpy (A' (rp s')) (A' 81) 0 (8 * l) 8) (rp s') = A' (rp s') := hS1 (rp s') (by cases s' <;> rfl)
      have ht1 : ∀ b i, b < l + 1 → i < k → va_cpy (A' (rp s')) (A' 81) 0 (8 * l) 8 (8 * b + i) = itr (mA 1) k b (nw (mA 1)) i := fun b i hb hi => by
        by_cases q : b = l
        · subst q
          rw [pk_cpy_in (by omega) (by omega), show 0 + (8 * b + i - 8 * b) = i by omega]
          exact hrp i hi
        · rw [pk_cpy_out (by omega)]
          exact ht b i (by omega) hi
      have fin : ∀ s2 A2, sm [48, 49, 39, 40, 41, 42, 43, 44, 45, 46, 13, 14] A2 (aset A' 81 (va_cpy (A' (rp s')) (A' 81) 0 (8 * l) 8)) → KV (fun i => A2 (39 + i)) (mA 1) n k → (∀ i, i < k → A2 (rp s2) i = itr (mA 1) k 1 (aset A' 81 (va_cpy (A' (rp s')) (A' 81) 0 (8 * l) 8) (rp s')) i) → Rel mA mF A2 F ∧ Aux (mA 1) A2 F c ∧ (∀ q, q < k → A2 (rp s2) q = itr (mA 1) k (l + 1) (nw (mA 1)) q) ∧ (∀ q, q < k → bd (A2 (rp s2) q) n) ∧ (∀ b i, b < l + 1 → i < k → A2 81 (8 * b + i) = itr (mA 1) k b (nw (mA 1)) i) := fun s2 A2 hS2 hK2 hr2 => by
        obtain ⟨hR2, hX2⟩ := run1 hC hR1 hX1 hS2 (by decide) rfl hK2
        have hr3 : ∀ q, q < k → A2 (rp s2) q = stp (mA 1) k (A' (rp s')) q := fun q hq => by
          rw [hr2 q hq, erp]
          rfl
        refine ⟨hR2, hX2, fun q hq => (hr3 q hq).trans (stp_cg hC.1 hrp q hq), fun q hq => by rw [hr3 q hq]; exact stp_bd hn hn2 hn12 _ q hq, fun b i hb hi => ?_⟩
        rw [hS2 81 rfl, aset_s]
        exact ht1 b i hb hi
      cases s'
      · refine And.intro cc ?_
        refine ⟨false, t, u, aset A' 81 (va_cpy (A' (rp false)) (A' 81) 0 (8 * l) 8), F, mA 1, n, k, 1, rfl, cwset81 (ec _ _), by omega, hC.1, hC.2.1, hR1.1, hKV1, fun q hq => by rw [erp]; exact hbp q hq, fun s2 A2 hS2 hK2 hr2 => ?_⟩
        exact ⟨m1 - (l + 1), by omega, rfl, rfl, l + 1, s2, A2, hlt, rfl, by rw [← nI_1 l]; rfl, rfl, fin s2 A2 hS2 hK2 hr2⟩
      · refine And.intro cc ?_
        refine ⟨true, t, u, aset A' 81 (va_cpy (A' (rp true)) (A' 81) 0 (8 * l) 8), F, mA 1, n, k, 1, rfl, cwset81 (ec _ _), by omega, hC.1, hC.2.1, hR1.1, hKV1, fun q hq => by rw [erp]; exact hbp q hq, fun s2 A2 hS2 hK2 hr2 => ?_⟩
        exact ⟨m1 - (l + 1), by omega, rfl, rfl, l + 1, s2, A2, hlt, rfl, by rw [← nI_1 l]; rfl, rfl, fin s2 A2 hS2 hK2 hr2⟩
def sX9_goesBy : XS := fun as w post => ∃ (s t u : Bool) (A : XA) (F : Nat → Int32) (mA : XA) (mF : Nat → Int32) (k h b i z : Nat), as = [.ref 0, .int (nI h), .int (nI b), .int (nI i)] ∧ w = CW s t u A F ∧ Rel mA mF A F ∧ h < 4 ∧ i < k ∧ k ≤ 8 ∧ b ≤ 100 ∧ mA 16 h = nI z ∧ z ≤ 40 ∧ (∀ b' i, b' < 100 + z → i < k → A 81 (8 * b' + i) = itr (mA 1) k b' (nw (mA 1)) i) ∧ (TU mA h z k b i → post (some (.int 1)) (CW s t u A F)) ∧ (¬ TU mA h z k b i → post (some (.int 0)) (CW s t u A F))
set_option maxRecDepth 10000 in
set_option maxHeartbeats 1000000 in
theorem mX9_goesBy (d : Nat) (hd : 1 ≤ d) : xCT d yX9_goesBy cX9_goesBy 5 (some .boolean) sX9_goesBy := by
  obtain ⟨d, rfl⟩ : ∃ e, d = e + 1 := ⟨d - 1, by omega⟩
  refine xmet (tb := tX9_goesBy) (fl := fX9) (kc := nX9) (gs := g0) (cl := xlk [(151, true, 2, xrcv 6 (sX6_size_W)), (159, true, 3, xrcv 6 (sX6_number_W))]) (by decide) tX9_goesBy_ok fX9_ok nX9_ok g0_ok (xg_cons (k_X9_151 (mX6_size_W d (by omega))) (xg_cons (k_X9_159 (mX6_number_W d (by omega))) xg_nil)) ?_
  rintro L xs as w Qp ⟨s, t, u, A, F, mA, mF, k, hh, b, i, z, rfl, rfl, hR, hh4, hi, hk8, hb, ez, hz, ht, hy, hno⟩
  refine ⟨Nat.le_of_ble_eq_true rfl, 400, xlk [(3, 5)], fun m pc ls st w => pc = 3 ∧ st = [] ∧ w = CW s t u A F ∧ ∃ j, j ≤ z ∧ m = z - j ∧ ls = [(0, .ref 0), (1, .int (nI hh)), (2, .int (nI b)), (3, .int (nI i)), (4, .int (nI j))] ∧ ∀ q, q < j → itr (mA 1) k (b + q) (nw (mA 1)) i = mA 17 (40 * hh + q), ?_, ?_⟩
  · exact ⟨z, rfl, rfl, rfl, 0, Nat.zero_le _, rfl, rfl, fun q hq => absurd hq (Nat.not_lt_zero _)⟩
  · rintro m pc m9 ls st w hc9 ⟨rfl, rfl, rfl, j, hj, rfl, rfl, hall⟩
    refine ⟨s, t, u, A, F, hh, rfl, rfl, hh4, fun v hv => ?_⟩
    have ev : v = nI z := by rw [hv, (hR.2.2.2.2.1 hh hh4).2, ez]
    refine And.intro (fun g => ?_) (fun g => ?_)
    · have := ge_n ev (by omega) (by omega) g
      exact ⟨rfl, hy (fun q hq => hall q (by omega))⟩
    · have hlt := nge_n ev (by omega) (by omega) g
      have eat : (nI b + nI j) * 8 + nI i = nI (8 * (b + j) + i) := by rw [nI_add, show (8 : Int32) = nI 8 from rfl, pk_mul, nI_add, Nat.mul_comm]
      refine And.intro (by show vp_in ((nI b + nI j) * 8 + nI i) 1120; rw [eat]; exact vp_in_nI (by omega) (by decide)) ?_
      refine ⟨s, t, u, A, F, hh, j, rfl, rfl, hh4, by omega, fun y hy2 => ?_⟩
      rw [hR.2.2.2.2.2.1 hh j hh4 (by omega)] at hy2
      have ev2 : A 81 ((nI b + nI j) * 8 + nI i).toNatClampNeg = itr (mA 1) k (b + j) (nw (mA 1)) i := by
        rw [eat, cl (by omega)]
        exact ht (b + j) i (by omega) hi
      refine And.intro (fun g2 => ?_) (fun g2 => ?_)
      · have g2 : A 81 ((nI b + nI j) * 8 + nI i).toNatClampNeg = y := g2
        rw [ev2, hy2] at g2
        refine ⟨z - (j + 1), by omega, rfl, rfl, rfl, j + 1, hlt, rfl, by rw [← nI_1 j]; rfl, fun q hq => ?_⟩
        by_cases e : q = j
        · rw [e]
          exact g2
        · exact hall q (by omega)
      · have g2 : ¬ A 81 ((nI b + nI j) * 8 + nI i).toNatClampNeg = y := g2
        rw [ev2, hy2] at g2
        exact ⟨rfl, hno (fun q => g2 (q j hlt))⟩
def sX9_tune : XS := fun as w post => ∃ (s t u : Bool) (A : XA) (F : Nat → Int32) (mA : XA) (mF : Nat → Int32) (c n k : Nat) (x : Int32), as = [.ref 0, .int x] ∧ w = CW s t u A F ∧ CI mA mF n k ∧ Rel mA mF A F ∧ Aux (mA 1) A F c ∧ c < 2 ^ 28 ∧ cQ (qtune x mA mF) c post
set_option maxRecDepth 10000 in
set_option maxHeartbeats 1000000 in
theorem mX9_tune (d : Nat) (hd : 6 ≤ d) : xCT d yX9_tune cX9_tune 4 (some .int) sX9_tune := by
  obtain ⟨d, rfl⟩ : ∃ e, d = e + 1 := ⟨d - 1, by omega⟩
  refine xmet (tb := tX9_tune) (fl := fX9) (kc := nX9) (gs := g0) (cl := xlk [(145, false, 1, sX9_isSheet), (86, true, 2, xrcv 9 (sX9_fail)), (148, true, 2, xrcv 6 (sX6_isMissing_W)), (151, true, 2, xrcv 6 (sX6_size_W)), (282, true, 2, xrcv 9 (sX9_writeTuneNotes)), (285, true, 4, xrcv 9 (sX9_goesBy))]) (by decide) tX9_tune_ok fX9_ok nX9_ok g0_ok (xg_cons (k_X9_145 (mX9_isSheet d (by omega))) (xg_cons (k_X9_86 (mX9_fail d (by omega))) (xg_cons (k_X9_148 (mX6_isMissing_W d (by omega))) (xg_cons (k_X9_151 (mX6_size_W d (by omega))) (xg_cons (k_X9_282 (mX9_writeTuneNotes d (by omega))) (xg_cons (k_X9_285 (mX9_goesBy d (by omega))) xg_nil)))))) ?_
  rintro L xs as w Qp ⟨s, t, u, A, F, mA, mF, c, n, k, x, rfl, rfl, hC, hR, hX, hc, h⟩
  obtain ⟨hn, hn2, hn12, hk, hk8, hF11, hF12, hA, hKV, h54, h58⟩ := ctx hC hR hX
  obtain ⟨eN, eK⟩ := DI_nk hC.1
  refine ⟨Nat.le_of_ble_eq_true rfl, 400, xlk [(35, 1), (58, 3), (66, 4)], fun m pc ls st w => st = [] ∧ ((pc = 35 ∧ m = 0 ∧ ls = [(0, .ref 0)] ∧ w = CW s t u A F ∧ ∃ a, a < 4 ∧ x = nI a ∧ (mA 15 a = 0 ∨ mA 16 a = 0)) ∨ (∃ a z b s' A', a < 4 ∧ x = nI a ∧ z ≤ 40 ∧ mA 16 a = nI z ∧ ¬ (mA 15 a = 0 ∨ mA 16 a = 0) ∧ w = CW s' t u A' F ∧ Rel mA mF A' F ∧ Aux (mA 1) A' F c ∧ (∀ b' i, b' < 100 + z → i < k → A' 81 (8 * b' + i) = itr (mA 1) k b' (nw (mA 1)) i) ∧ ((pc = 58 ∧ b ≤ 101 ∧ m = 10000 - b * 50 ∧ ls = [(0, .ref 0), (1, .int (nI a)), (2, .int (nI b))] ∧ lead (fun c => ¬ TU mA a z k (c / k) (c % k)) (k * b) = k * b) ∨ (pc = 66 ∧ b ≤ 100 ∧ ∃ i, i ≤ k ∧ m = 10000 - b * 50 - 1 - i ∧ ls = [(0, .ref 0), (1, .int (nI a)), (2, .int (nI b)), (3, .int (nI i))] ∧ lead (fun c => ¬ TU mA a z k (c / k) (c % k)) (k * b + i) = k * b + i)))), ?_, ?_⟩
  · refine ⟨x, rfl, fun a ha e => ?_, fun g => ?_⟩
    · subst e
      refine br_t xc_ne1 ?_
      have ea : (nI a).toNatClampNeg = a := cl (by omega)
      obtain ⟨e66, e67⟩ := hR.2.2.2.2.1 a ha
      obtain ⟨z0, hz0, ez0⟩ := hC.2.2.2.1 a ha
      refine ⟨s, t, u, A, F, a, rfl, rfl, ha, fun g => ?_, fun g => ?_⟩
      · refine br_t xc_ne1 ?_
        exact ⟨0, rfl, Or.inl ⟨rfl, rfl, rfl, rfl, a, ha, rfl, Or.inl (by rw [← e66]; exact g)⟩⟩
      · refine br_f xc_ne0 ?_
        refine ⟨s, t, u, A, F, a, rfl, rfl, ha, fun v hv => ?_⟩
        rw [e67] at hv
        refine And.intro (fun g2 => ?_) (fun g2 => ?_)
        · have g2 : ¬ v = 0 := g2
          refine ⟨s, t, u, A, F, a, rfl, rfl, ha, fun v2 hv2 => ?_⟩
          rw [e67, ez0] at hv2
          refine ⟨s, t, u, A, F, mA, mF, c, n, k, 100 + z0, ?_, rfl, hC, hR, hX, by omega, fun s' A' hR' hX' ht => ?_⟩
          · rw [← nI_add, ← hv2]
            rfl
          · refine ⟨10000 - 0 * 50, rfl, Or.inr ⟨a, z0, 0, s', A', ha, rfl, by omega, ez0, fun q => q.elim (fun q => g (by rw [e66]; exact q)) (fun q => g2 (by rw [hv]; exact q)), rfl, hR', hX', ht, Or.inl ⟨rfl, by omega, rfl, rfl, rfl⟩⟩⟩
        · have g2 : v = 0 := Classical.byContradiction g2
          exact ⟨0, rfl, Or.inl ⟨rfl, rfl, rfl, rfl, a, ha, rfl, Or.inr (by rw [← hv]; exact g2)⟩⟩
    · refine br_f xc_ne0 ?_
      refine ⟨s, t, u, A, F, 1, rfl, rfl, by decide, by decide, ?_⟩
      exact cQ_e h (cif_f' (isH_n g) rfl) hR hX
  · rintro m pc m9 ls st w hc9 ⟨rfl, ⟨rfl, rfl, rfl, rfl, a, ha, rfl, g⟩ | ⟨a, z, b, s', A', ha, rfl, hz, ez, nm, rfl, hR', hX', ht, ⟨rfl, hb, rfl, rfl, hL⟩ | ⟨rfl, hb, i, hi, rfl, rfl, hL⟩⟩⟩
    · have ea : (nI a).toNatClampNeg = a := cl (by omega)
      refine ⟨s, t, u, A, F, 2, rfl, rfl, by decide, by decide, ?_⟩
      exact cQ_e h (cif_t' (isH_i ha) (cif_t' (by rw [ea]; exact g) rfl)) hR hX
    · have ea : (nI a).toNatClampNeg = a := cl (by omega)
      have eT : tuL mA a = lead (fun c => ¬ TU mA a z k (c / k) (c % k)) (k * 101) := by
        unfold tuL
        rw [eK, ez, cl (by omega)]
      refine And.intro (fun g => ?_) (fun g => ?_)
      · have g : nI 100 < nI b := g
        rw [fa_lt, nI_toInt (by omega), nI_toInt (by omega)] at g
        have eb : b = 101 := by omega
        subst eb
        refine ⟨s', t, u, A', F, 2, rfl, rfl, by decide, by decide, ?_⟩
        exact cQ_e h (cif_t' (isH_i ha) (cif_f' (by rw [ea]; exact nm) (cif_t' (by rw [ea, eT, eK]; exact hL) rfl))) hR' hX'
      · have g : ¬ nI 100 < nI b := g
        rw [fa_lt, nI_toInt (by omega), nI_toInt (by omega)] at g
        exact ⟨10000 - b * 50 - 1 - 0, by omega, rfl, Or.inr ⟨a, z, b, s', A', ha, rfl, hz, ez, nm, rfl, hR', hX', ht, Or.inr ⟨rfl, by omega, 0, Nat.zero_le _, rfl, rfl, hL⟩⟩⟩
    · have ea : (nI a).toNatClampNeg = a := cl (by omega)
      have eT : tuL mA a = lead (fun c => ¬ TU mA a z k (c / k) (c % k)) (k * 101) := by
        unfold tuL
        rw [eK, ez, cl (by omega)]
      refine And.intro (fun g => ?_) (fun g => ?_)
      · have := ge_n hF12 (by omega) (by omega) g
        refine ⟨10000 - (b + 1) * 50, by omega, rfl, Or.inr ⟨a, z, b + 1, s', A', ha, rfl, hz, ez, nm, rfl, hR', hX', ht, Or.inl ⟨rfl, by omega, rfl, by rw [← nI_1 b]; rfl, ?_⟩⟩⟩
        rw [Nat.mul_succ]
        rw [show i = k by omega] at hL
        exact hL
      · have hlt := nge_n hF12 (by omega) (by omega) g
        have d1 : (k * b + i) / k = b := by rw [Nat.mul_add_div (by omega), Nat.div_eq_of_lt hlt, Nat.add_zero]
        have d2 : (k * b + i) % k = i := by rw [Nat.mul_add_mod, Nat.mod_eq_of_lt hlt]
        have hcn : k * b + i < k * 101 := by
          have : k * (b + 1) ≤ k * 101 := Nat.mul_le_mul_left k (by omega)
          rw [Nat.mul_succ] at this
          omega
        refine ⟨s', t, u, A', F, mA, mF, k, a, b, i, z, rfl, rfl, hR', ha, hlt, hk8, hb, ez, hz, ht, fun q => ?_, fun q => ?_⟩
        · refine br_f xc_eq1 ?_
          have e1 : tuL mA a = k * b + i := by
            rw [eT]
            exact lead_stop hL (fun q2 => q2 (by rw [d1, d2]; exact q)) (k * 101) (by omega)
          refine cQ_s h (cif_t' (isH_i ha) (cif_f' (by rw [ea]; exact nm) (cif_f' (by rw [ea, e1, eK]; omega) ?_))) hR' hX'
          rw [ea, e1, eK, d1, d2]
          rfl
        · refine br_t xc_eq0 ?_
          exact ⟨10000 - b * 50 - 1 - (i + 1), by omega, rfl, Or.inr ⟨a, z, b, s', A', ha, rfl, hz, ez, nm, rfl, hR', hX', ht, Or.inr ⟨rfl, hb, i + 1, hlt, rfl, by rw [← nI_1 i]; rfl, lead_go hL (show ¬ TU mA a z k ((k * b + i) / k) ((k * b + i) % k) by rw [d1, d2]; exact q)⟩⟩⟩
