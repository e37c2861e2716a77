/-! ===== the class's calls: feed, text, begin ===== -/
theorem cwset9 {s t u : Bool} {A : XA} {F f f' : Nat → Int32} (h : f = f') : List.set (CW s t u A F) 9 (.inl (1, 50, .inl f)) = CW s t u (aset A 9 f') F := by
  subst h
  rfl
def sX9_feed : XS := fun as w post => ∃ (s t u : Bool) (A : XA) (F : Nat → Int32) (mA : XA) (mF : Nat → Int32) (c n k : Nat) (x : Int64) (y : Int32), as = [.ref 0, .long x, .int y] ∧ w = CW s t u A F ∧ CI mA mF n k ∧ Rel mA mF A F ∧ Aux (mA 1) A F c ∧ c < 2 ^ 28 ∧ cQ (qfeed x y mA mF) c post
set_option maxRecDepth 10000 in
set_option maxHeartbeats 1000000 in
theorem mX9_feed (d : Nat) (hd : 1 ≤ d) : xCT d yX9_feed cX9_feed 5 (some .int) sX9_feed := by
  obtain ⟨d, rfl⟩ : ∃ e, d = e + 1 := ⟨d - 1, by omega⟩
  refine xmet (tb := tX9_feed) (fl := fX9) (kc := nX9) (gs := g0) (cl := xlk [(82, false, 3, sX9_within), (86, true, 2, xrcv 9 (sX9_fail))]) (by decide) tX9_feed_ok fX9_ok nX9_ok g0_ok (xg_cons (k_X9_82 (mX9_within d (by omega))) (xg_cons (k_X9_86 (mX9_fail d (by omega))) xg_nil)) ?_
  rintro L xs as w Qp ⟨s, t, u, A, F, mA, mF, c, n, k, x, y, rfl, rfl, hC, hR, hX, hc, h⟩
  obtain ⟨hn, hn2, hn12, hk, hk8, hF11, hF12, hA, hKV, h54, h58⟩ := ctx hC hR hX
  obtain ⟨_, _, _, _, _, _, _, ⟨f, hf, ef⟩, _⟩ := hC.1
  have e15 : F 15 = nI f := hR.1.2.2.2.2.1.trans ef
  refine ⟨Nat.le_of_ble_eq_true rfl, 400, xlk [(39, 5)], fun m pc ls st w => pc = 39 ∧ st = [] ∧ ∃ i l A', 1 ≤ l ∧ l ≤ 8 ∧ y = nI l ∧ f + l ≤ 50 ∧ i ≤ l ∧ m = l - i ∧ ls = [(0, .ref 0), (1, .long x), (3, .int (nI l)), (4, .int (nI i))] ∧ w = CW s t u A' F ∧ sm [9] A' A ∧ sb_Fit (A' 9) ∧ (∀ j, j < f → A' 9 j = A 9 j) ∧ (∀ j, j < i → A' 9 (f + j) &&& 255 = byt x j), ?_, ?_⟩
  · refine ⟨y, 1, 8, rfl, fun g1 g2 => ?_, fun g => ?_⟩
    · refine br_t xc_ne1 ?_
      obtain ⟨l, hl, el⟩ := rg (c := 8) (by omega) (show (0 : Int32) ≤ y from by
        rw [fa_le] at g1 ⊢
        exact Int.le_trans (by decide) g1) g2
      have hl1 : 1 ≤ l := by
        rw [el, show (1 : Int32) = nI 1 from rfl, fa_le, nI_toInt (by omega), nI_toInt (by omega)] at g1
        omega
      subst el
      have es : F 15 + nI l = nI (f + l) := by rw [e15, nI_add]
      refine And.intro (fun g3 => ?_) (fun g3 => ?_)
      · have g3 : F 15 + nI l ≤ nI 50 := g3
        rw [es, fa_le, nI_toInt (by omega), nI_toInt (by omega)] at g3
        exact ⟨l, rfl, rfl, 0, l, A, hl1, hl, rfl, by omega, Nat.zero_le _, rfl, rfl, rfl, sm_rf, hR.2.2.2.2.2.2.2.1, fun _ _ => rfl, fun j hj => absurd hj (Nat.not_lt_zero _)⟩
      · have g3 : ¬ F 15 + nI l ≤ nI 50 := g3
        refine ⟨s, t, u, A, F, 4, rfl, rfl, by decide, by decide, ?_⟩
        exact cQ_e h (cif_t' ⟨g1, g2⟩ (cif_t' (by rw [ef, ← e15]; exact fa_of_nle g3) rfl)) hR hX
    · refine br_f xc_ne0 ?_
      refine ⟨s, t, u, A, F, 1, rfl, rfl, by decide, by decide, ?_⟩
      exact cQ_e h (cif_f' g rfl) hR hX
  · rintro m pc m9 ls st w hc9 ⟨rfl, rfl, i, l, A', hl1, hl8, rfl, hfl, hi, rfl, rfl, rfl, hS, hfit, hlo, hhi⟩
    have es : F 15 + nI l = nI (f + l) := by rw [e15, nI_add]
    refine And.intro (fun g => ?_) (fun g => ?_)
    · have := ge_n (k := l) rfl (by omega) (by omega) g
      have ei : i = l := by omega
      subst ei
      have g12 : (1 : Int32) ≤ nI i ∧ nI i ≤ 8 := ⟨nI_le (a := 1) hl1 (by omega), nI_le (b := 8) hl8 (by omega)⟩
      have nfull : ¬ 50 < mA 1 4 + nI i := by
        rw [ef, nI_add]
        exact fun q => (fa_of_lt q).2.1 (nI_le (b := 50) hfl (by omega))
      have d4 : fedD (mA 1) x f i 4 = nI (f + i) := if_pos rfl
      have dD : ∀ j, j ≠ 4 → (j < 196 + f ∨ 196 + f + i ≤ j) → fedD (mA 1) x f i j = mA 1 j := fun j a b => by
        unfold fedD
        rw [if_neg a, if_neg (by omega)]
      have dB : ∀ j, j < i → fedD (mA 1) x f i (196 + (f + j)) = byt x j := fun j hj => by
        unfold fedD
        rw [if_neg (by omega), if_pos (by omega)]
        congr 1
        omega
      have h9 := cQ_ch (s := s) (t := t) (u := u) (A' := A') (F' := fset F 15 (nI (f + i))) (v := nI (f + i)) (c' := c) (fedD (mA 1) x f i) h (cif_t' g12 (cif_f' nfull (by rw [ef, cl (by omega), cl (by omega)]))) hR (sm_w hS rfl) (fsm_fset rfl) (CRg2 hR.1 (DI_b hC.1) (fun v hv => ⟨dD _ (by omega) (by omega), fun j hj => dD _ (by omega) (by omega)⟩) (hR.1.1.trans (dD _ (by omega) (by omega)).symm) (hR.1.2.1.trans (dD _ (by omega) (by omega)).symm) (hR.1.2.2.1.trans (dD _ (by omega) (by omega)).symm) (hR.1.2.2.2.1.trans (dD _ (by omega) (by omega)).symm) d4.symm (hR.1.2.2.2.2.2.1.trans (dD _ (by omega) (by omega)).symm) rfl rfl (hS 12 rfl) (hS 16 rfl) (fun j hj => ?_) (fun j hj => ?_) (fun j hj => ?_)) hfit (Aux_i ((dD _ (by omega) (by omega)).trans hn) ((dD _ (by omega) (by omega)).trans hk) hn12 hk8 (KV_d2 (KV_cg hKV (fun t ht => hS (39 + t) (row8 (by omega) (by decide)))) (DI_b hC.1 0 (by omega)) (dD _ (by omega) (by omega)) (fun j hj => dD _ (by omega) (by omega)) (dD _ (by omega) (by omega)) (fun j hj => ⟨dD _ (by omega) (by omega), dD _ (by omega) (by omega)⟩)) h54 (fun q hq => by rw [hS 58 rfl]; exact h58 q hq))
      · rw [← es] at h9
        exact h9
      · rw [dD 2 (by omega) (by omega)] at hj
        have hj8 : j < 8 := by
          have := hj
          rw [hk, cl (by omega)] at this
          omega
        have q := hR.1.2.2.2.2.2.2.1 j hj
        rw [dD _ (by omega) (by omega), dD _ (by omega) (by omega), dD _ (by omega) (by omega), dD _ (by omega) (by omega), dD _ (by omega) (by omega), dD _ (by omega) (by omega), dD _ (by omega) (by omega)]
        exact ⟨(congrFun (hS 2 rfl) j).trans q.1, (congrFun (hS 3 rfl) j).trans q.2.1, (congrFun (hS 4 rfl) j).trans q.2.2.1, (congrFun (hS 6 rfl) j).trans q.2.2.2.1, (congrFun (hS 7 rfl) j).trans q.2.2.2.2.1, (congrFun (hS 5 rfl) j).trans q.2.2.2.2.2.1, (congrFun (hS 8 rfl) j).trans q.2.2.2.2.2.2⟩
      · rw [d4, cl (by omega)] at hj
        show A' 9 j &&& 255 = _
        by_cases q : j < f
        · rw [hlo j q, dD _ (by omega) (by omega)]
          exact hR.1.2.2.2.2.2.2.2.1 j (by rw [ef, cl (by omega)]; exact q)
        · have e := hhi (j - f) (by omega)
          have e2 := dB (j - f) (by omega)
          rw [show f + (j - f) = j by omega] at e e2
          rw [e, e2]
      · rw [dD 5 (by omega) (by omega)] at hj
        obtain ⟨_, _, _, _, _, _, _, _, ⟨w5, hw5, ew5⟩, _⟩ := hC.1
        have hj20 : j < 20 := by
          have := hj
          rw [ew5, cl (by omega)] at this
          omega
        rw [dD _ (by omega) (by omega)]
        exact (congrFun (hS 10 rfl) j).trans (hR.1.2.2.2.2.2.2.2.2.1 j hj)
    · have hlt := nge_n (k := l) rfl (by omega) (by omega) g
      have ea : F 15 + nI i = nI (f + i) := by rw [e15, nI_add]
      refine And.intro (by show vp_in (F 15 + nI i) 50; rw [ea]; exact vp_in_nI (by omega) (by decide)) ?_
      have eu : upd (A' 9) (F 15 + nI i).toNatClampNeg (vp_nar .byte (((x.toUInt64 >>> ((8 * nI i).toInt64.toUInt64 &&& Int64.toUInt64 63)).toInt64.toInt32).toInt8.toInt32)) = upd (A' 9) (f + i) (vp_nar .byte (((x.toUInt64 >>> ((8 * nI i).toInt64.toUInt64 &&& Int64.toUInt64 63)).toInt64.toInt32).toInt8.toInt32)) := by rw [ea, cl (by omega)]
      refine ⟨l - (i + 1), by omega, rfl, rfl, i + 1, l, _, hl1, hl8, rfl, hfl, hlt, rfl, by rw [← nI_1 i]; rfl, cwset9 eu, sm_tr hS (sm_aset rfl), ?_, fun j hj => ?_, fun j hj => ?_⟩
      · show sb_Fit (upd (A' 9) (f + i) _)
        refine sb_fitU hfit ?_
        rw [vp_nar_byte]
        exact pk_fb _
      · show upd (A' 9) (f + i) _ j = _
        rw [pk_un (by omega)]
        exact hlo j hj
      · show upd (A' 9) (f + i) _ (f + j) &&& 255 = _
        by_cases q : j = i
        · subst q
          rw [pk_us]
          exact cby_lo (by omega)
        · rw [pk_un (by omega)]
          exact hhi j (by omega)
def sX9_begin : XS := fun as w post => ∃ (s t u : Bool) (A : XA) (F : Nat → Int32) (mA : XA) (mF : Nat → Int32) (c n k : Nat) (x : Int32), as = [.ref 0, .int x] ∧ w = CW s t u A F ∧ CI mA mF n k ∧ Rel mA mF A F ∧ Aux (mA 1) A F c ∧ c < 2 ^ 28 ∧ cQ (qbegin x mA mF) c post
set_option maxRecDepth 10000 in
set_option maxHeartbeats 1000000 in
theorem mX9_begin (d : Nat) (hd : 2 ≤ d) : xCT d yX9_begin cX9_begin 4 (some .int) sX9_begin := by
  obtain ⟨d, rfl⟩ : ∃ e, d = e + 1 := ⟨d - 1, by omega⟩
  refine xmet (tb := tX9_begin) (fl := fX9) (kc := nX9) (gs := g0) (cl := xlk [(145, false, 1, sX9_isSheet), (86, true, 2, xrcv 9 (sX9_fail)), (148, true, 2, xrcv 6 (sX6_isMissing_W)), (151, true, 2, xrcv 6 (sX6_size_W)), (159, true, 3, xrcv 6 (sX6_number_W)), (82, false, 3, sX9_within), (154, false, 2, xMin)]) (by decide) tX9_begin_ok fX9_ok nX9_ok g0_ok (xg_cons (k_X9_145 (mX9_isSheet d (by omega))) (xg_cons (k_X9_86 (mX9_fail d (by omega))) (xg_cons (k_X9_148 (mX6_isMissing_W d (by omega))) (xg_cons (k_X9_151 (mX6_size_W d (by omega))) (xg_cons (k_X9_159 (mX6_number_W d (by omega))) (xg_cons (k_X9_82 (mX9_within d (by omega))) (xg_cons (k_X9_154_min (xrm_ok d)) xg_nil))))))) ?_
  rintro L xs as w Qp ⟨s, t, u, A, F, mA, mF, c, n, k, x, rfl, rfl, hC, hR, hX, hc, h⟩
  obtain ⟨hn, hn2, hn12, hk, hk8, hF11, hF12, hA, hKV, h54, h58⟩ := ctx hC hR hX
  refine ⟨Nat.le_of_ble_eq_true rfl, 400, xlk [(51, 4)], fun m pc ls st w => pc = 51 ∧ st = [] ∧ ∃ h z i l A', h < 4 ∧ x = nI h ∧ z ≤ 40 ∧ mA 16 h = nI z ∧ ¬ mA 15 h = 0 ∧ l = min z k ∧ i ≤ l ∧ m = l - i ∧ ls = [(0, .ref 0), (1, .int (nI h)), (2, .int (nI l)), (3, .int (nI i))] ∧ w = CW s t u A' F ∧ sm [4] A' A ∧ came (mA 17) (mA 1 1) (40 * h) i = i ∧ (∀ j, j < i → A' 4 j = mA 17 (40 * h + j)) ∧ (∀ j, i ≤ j → A' 4 j = A 4 j), ?_, ?_⟩
  · refine ⟨x, rfl, fun i hi e => ?_, fun g => ?_⟩
    · subst e
      refine br_t xc_ne1 ?_
      have ei : (nI i).toNatClampNeg = i := cl (by omega)
      obtain ⟨e66, e67⟩ := hR.2.2.2.2.1 i hi
      obtain ⟨z0, hz0, ez0⟩ := hC.2.2.2.1 i hi
      refine ⟨s, t, u, A, F, i, rfl, rfl, hi, fun g => ?_, fun g => ?_⟩
      · refine br_f xc_eq1 ?_
        refine ⟨s, t, u, A, F, 2, rfl, rfl, by decide, by decide, ?_⟩
        exact cQ_e h (cif_t' (isH_i hi) (cif_t' (by rw [ei, ← e66]; exact g) rfl)) hR hX
      · refine br_t xc_eq0 ?_
        refine ⟨s, t, u, A, F, i, rfl, rfl, hi, fun v hv => ?_⟩
        have em : (if v < F 12 then v else F 12) = nI (min z0 k) := by
          rw [hv, e67, ez0, hF12]
          by_cases q : z0 < k
          · rw [if_pos (nI_lt q (by omega)), Nat.min_eq_left (by omega)]
          · rw [if_neg (nI_nlt (by omega) (by omega)), Nat.min_eq_right (by omega)]
        refine ⟨min z0 k, rfl, rfl, i, z0, 0, min z0 k, A, hi, rfl, by omega, ez0, by rw [← e66]; exact g, rfl, Nat.zero_le _, rfl, ?_, rfl, sm_rf, rfl, fun j hj => absurd hj (Nat.not_lt_zero _), fun _ _ => rfl⟩
        rw [← em]
        rfl
    · refine br_f xc_ne0 ?_
      refine ⟨s, t, u, A, F, 1, rfl, rfl, by decide, by decide, ?_⟩
      exact cQ_e h (cif_f' (isH_n g) rfl) hR hX
  · rintro m pc m9 ls st w hc9 ⟨rfl, rfl, a, z, i, l, A', ha, rfl, hz, ez, hb, hl, hi, rfl, rfl, rfl, hS, hcame, hlo, hhi⟩
    have ea : (nI a).toNatClampNeg = a := cl (by omega)
    have hlz : l ≤ z := by omega
    have hlk : l ≤ k := by omega
    have fin : came (mA 17) (mA 1 1) (40 * a) l = i → Qp (some (.int (nI i))) (CW s t u A' F) := fun q => by
      have bD : ∀ j, (∀ t, t < i → j ≠ 8 + 8 * t + 2) → begD (mA 1) (mA 17) (40 * a) i j = mA 1 j := fun j b => by
        unfold begD
        rw [if_neg]
        rintro ⟨q1, q2, q3⟩
        exact b ((j - 8) / 8) q2 (by omega)
      have b2 : ∀ j, j < i → begD (mA 1) (mA 17) (40 * a) i (8 + 8 * j + 2) = mA 17 (40 * a + j) := fun j hj => by
        unfold begD
        have e1 : (8 + 8 * j + 2 - 8) / 8 = j := by omega
        have e2 : (8 + 8 * j + 2 - 8) % 8 = 2 := by omega
        rw [e1, e2, if_pos ⟨by omega, hj, rfl⟩]
      refine cQ_ch (begD (mA 1) (mA 17) (40 * a) i) (c' := c) h (cif_t' (isH_i ha) (cif_f' (by rw [ea]; exact hb) ?_)) hR (sm_w hS rfl) fsm_rf (CRsg hR.1 (fun j hj => bD j (fun t ht => by omega)) (bD _ (fun t ht => by omega)) (bD _ (fun t ht => by omega)) (bD _ (fun t ht => by omega)) (bD _ (fun t ht => by omega)) (hR.1.2.2.1.trans (bD _ (fun t ht => by omega)).symm) (hR.1.2.2.2.1.trans (bD _ (fun t ht => by omega)).symm) rfl rfl rfl rfl rfl rfl (hS 9 rfl) (hS 10 rfl) (hS 12 rfl) (hS 16 rfl) (fun j hj => ?_)) (by rw [hS 9 rfl]; exact hR.2.2.2.2.2.2.2.1) (Aux_i ((bD _ (fun t ht => by omega)).trans hn) ((bD _ (fun t ht => by omega)).trans hk) hn12 hk8 (KV_dcg (KV_cg hKV (fun t ht => hS (39 + t) (row8 (by omega) (by decide)))) (fun j hj => bD j (fun t ht => by omega)) (bD _ (fun t ht => by omega)) (fun j hj => ⟨bD _ (fun t ht => by omega), bD _ (fun t ht => by omega)⟩)) h54 (fun q hq => by rw [hS 58 rfl]; exact h58 q hq))
      · rw [ea, ez, cl (by omega), hk, cl (by omega), ← hl, q]
      · obtain ⟨a0, a1, a2, a3, a4, a5, a6⟩ := hR.1.2.2.2.2.2.2.1 j hj
        rw [bD (8 + 8 * j + 0) (fun t ht => by omega), bD (8 + 8 * j + 1) (fun t ht => by omega), bD (8 + 8 * j + 3) (fun t ht => by omega), bD (8 + 8 * j + 4) (fun t ht => by omega), bD (8 + 8 * j + 5) (fun t ht => by omega), bD (8 + 8 * j + 6) (fun t ht => by omega)]
        refine ⟨(congrFun (hS 2 rfl) j).trans a0, (congrFun (hS 3 rfl) j).trans a1, ?_, (congrFun (hS 6 rfl) j).trans a3, (congrFun (hS 7 rfl) j).trans a4, (congrFun (hS 5 rfl) j).trans a5, (congrFun (hS 8 rfl) j).trans a6⟩
        show A' 4 j = _
        by_cases q2 : j < i
        · rw [hlo j q2, b2 j q2]
        · rw [hhi j (by omega), bD _ (fun t ht => by omega)]
          exact a2
    refine And.intro (fun g => ?_) (fun g => ?_)
    · have := ge_n (k := l) rfl (by omega) (by omega) g
      exact fin (by rw [← show i = l by omega]; exact hcame)
    · have hlt := nge_n (k := l) rfl (by omega) (by omega) g
      have e6 : A' (69 + a) i = mA 17 (40 * a + i) := by
        rw [hS (69 + a) (by rcases h4' ha with rfl | rfl | rfl | rfl <;> rfl)]
        exact hR.2.2.2.2.2.1 a i ha (by omega)
      refine ⟨s, t, u, A', F, a, i, rfl, rfl, ha, by omega, fun v hv => ?_⟩
      have ev : v = mA 17 (40 * a + i) := by rw [hv, e6]
      have eN : F 11 = mA 1 1 := hR.1.1
      refine ⟨v, 0, F 11 - 1, rfl, fun g1 g2 => ?_, fun g2 => ?_⟩
      · refine br_f xc_eq1 ?_
        refine ⟨s, t, u, A', F, a, i, rfl, rfl, ha, by omega, fun v2 hv2 => ?_⟩
        refine And.intro (vp_in_nI (by omega) (by decide)) ?_
        have eu : upd (A' 4) (nI i).toNatClampNeg v2 = upd (A' 4) i (mA 17 (40 * a + i)) := by rw [cl (by omega), hv2, e6]
        refine ⟨l - (i + 1), by omega, rfl, rfl, a, z, i + 1, l, _, ha, rfl, hz, ez, hb, hl, hlt, rfl, by rw [← nI_1 i]; rfl, cwset4 eu, sm_tr hS (sm_aset rfl), ?_, fun j hj => ?_, fun j hj => ?_⟩
        · exact cif_t ⟨hcame, by rw [← ev]; exact g1, by rw [← ev, ← eN]; exact g2⟩
        · show upd (A' 4) i _ j = _
          by_cases q : j = i
          · rw [q, pk_us]
          · rw [pk_un q]
            exact hlo j (by omega)
        · show upd (A' 4) i _ j = _
          rw [pk_un (by omega)]
          exact hhi j (by omega)
      · refine br_t xc_eq0 ?_
        exact fin (came_stop hcame (by rw [← ev, ← eN]; exact g2) l (by omega))
