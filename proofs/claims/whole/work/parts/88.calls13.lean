/-! ===== the class's calls: odd ones, tunes ===== -/
/-- one sings by a rule what a sheet tells -/
def SNk (D g : Nat → Int32) (h k z i : Nat) (a m : Int32) : Prop := ∀ b, (b + 1) * k ≤ z → crd (D 1) (vraw D a m (rwS D g h k b (fiN D i)) (rwS D g h k b (seN D i)) (nI i)) = g (40 * h + b * k + i)
def sX9_isOdd : XS := fun as w post => ∃ (s t u : Bool) (A : XA) (F : Nat → Int32) (mA : XA) (mF : Nat → Int32) (c n k h i z : Nat) (a m : Int32), as = [.ref 0, .int (nI h), .int (nI i), .int a, .int m] ∧ w = CW s t u A F ∧ CI mA mF n k ∧ Rel mA mF A F ∧ Aux (mA 1) A F c ∧ h < 4 ∧ i < k ∧ mA 16 h = nI z ∧ z ≤ 40 ∧ (SNk (mA 1) (mA 17) h k z i a m → ∀ A', Rel mA mF A' F → Aux (mA 1) A' F c → post (some (.int 0)) (CW s t u A' F)) ∧ (¬ SNk (mA 1) (mA 17) h k z i a m → ∀ A', Rel mA mF A' F → Aux (mA 1) A' F c → post (some (.int 1)) (CW s t u A' F))
theorem divm {b k z : Nat} (hk : 0 < k) : b < z / k ↔ (b + 1) * k ≤ z := by
  constructor
  · intro h
    exact Nat.le_trans (Nat.mul_le_mul_right k h) (Nat.div_mul_le_self z k)
  · intro h
    exact (Nat.le_div_iff_mul_le hk).mpr h
set_option maxRecDepth 10000 in
set_option maxHeartbeats 1000000 in
theorem mX9_isOdd (d : Nat) (hd : 3 ≤ d) : xCT d yX9_isOdd cX9_isOdd 11 (some .boolean) sX9_isOdd := by
  obtain ⟨d, rfl⟩ : ∃ e, d = e + 1 := ⟨d - 1, by omega⟩
  refine xmet (tb := tX9_isOdd) (fl := fX9) (kc := nX9) (gs := g0) (cl := xlk [(151, true, 2, xrcv 6 (sX6_size_W)), (352, true, 6, xrcv 1 (sX1_sumOf_W)), (348, true, 2, xrcv 1 (sX1_countedRound_W)), (159, true, 3, xrcv 6 (sX6_number_W))]) (by decide) tX9_isOdd_ok fX9_ok nX9_ok g0_ok (xg_cons (k_X9_151 (mX6_size_W d (by omega))) (xg_cons (k_X9_352 (mX1_sumOf_W d (by omega))) (xg_cons (k_X9_348 (mX1_countedRound_W d (by omega))) (xg_cons (k_X9_159 (mX6_number_W d (by omega))) xg_nil)))) ?_
  rintro L xs as w Qp ⟨s, t, u, A, F, mA, mF, c, n, k, hh, i, z, a, m1, rfl, rfl, hC, hR, hX, hh4, hi, ez, hz, hy, hno⟩
  obtain ⟨hn, hn2, hn12, hk, hk8, hF11, hF12, hA, hKV, h54, h58⟩ := ctx hC hR hX
  have hk0 : 0 < k := by omega
  have hnz : ¬ F 12 = 0 := by rw [hF12]; exact nI_ne0 hk0 (by omega)
  obtain ⟨⟨fi, hfi, efi⟩, ⟨se, hse, ese⟩⟩ : bd (mA 1 (8 + 8 * i + 3)) k ∧ bd (mA 1 (8 + 8 * i + 4)) k := ⟨(hC.1.2.2.2.2.2.1 i hi).2.2.2.1, (hC.1.2.2.2.2.2.1 i hi).2.2.2.2.1⟩
  have eF : fiN (mA 1) i = fi := by unfold fiN; rw [efi, cl (by omega)]
  have eS : seN (mA 1) i = se := by unfold seN; rw [ese, cl (by omega)]
  have ei : (nI i).toNatClampNeg = i := cl (by omega)
  have i0 : vp_in (nI i) 8 := vp_in_nI (by omega) (by decide)
  have hwl : z / k ≤ 40 := Nat.le_trans (Nat.div_le_self _ _) hz
  refine ⟨Nat.le_of_ble_eq_true rfl, 400, xlk [(73, 9)], fun m pc ls st w => pc = 73 ∧ st = [] ∧ ∃ b l r A', b ≤ z / k ∧ m = z / k - b ∧ l = rwS (mA 1) (mA 17) hh k b fi ∧ r = rwS (mA 1) (mA 17) hh k b se ∧ ls = [(0, .ref 0), (1, .int (nI hh)), (2, .int (nI i)), (3, .int a), (4, .int m1), (5, .int (nI (z / k))), (6, .int l), (7, .int r), (8, .int (nI b))] ∧ w = CW s t u A' F ∧ Rel mA mF A' F ∧ Aux (mA 1) A' F c ∧ ∀ b', b' < b → crd (mA 1 1) (vraw (mA 1) a m1 (rwS (mA 1) (mA 17) hh k b' fi) (rwS (mA 1) (mA 17) hh k b' se) (nI i)) = mA 17 (40 * hh + b' * k + i), ?_, ?_⟩
  · refine And.intro (fun g => ?_) (fun g => ?_)
    · refine ⟨s, t, u, A, F, hh, rfl, rfl, hh4, fun v hv => ?_⟩
      have ev : v = nI z := by rw [hv, (hR.2.2.2.2.1 hh hh4).2, ez]
      have eq : v / F 12 = nI (z / k) := by rw [ev, hF12, pk_div (by omega) (by omega) (by omega)]
      have e6 : A 6 (nI i).toNatClampNeg = nI fi := by rw [ei, (hA i hi).2.2.2.1, efi]
      have e7 : A 7 (nI i).toNatClampNeg = nI se := by rw [ei, (hA i hi).2.2.2.2.1, ese]
      refine And.intro hnz (And.intro i0 (And.intro (by show vp_in (A 6 (nI i).toNatClampNeg) 8; rw [e6]; exact vp_in_nI (by omega) (by decide)) (And.intro i0 (And.intro (by show vp_in (A 7 (nI i).toNatClampNeg) 8; rw [e7]; exact vp_in_nI (by omega) (by decide)) ?_))))
      refine ⟨z / k, rfl, rfl, 0, A 4 (A 6 (nI i).toNatClampNeg).toNatClampNeg, A 4 (A 7 (nI i).toNatClampNeg).toNatClampNeg, A, Nat.zero_le _, rfl, ?_, ?_, by rw [← eq]; rfl, rfl, hR, hX, fun b' hb' => absurd hb' (Nat.not_lt_zero _)⟩
      · rw [e6, cl (by omega), (hA fi hfi).2.2.1]
        rfl
      · rw [e7, cl (by omega), (hA se hse).2.2.1]
        rfl
    · exact absurd (Classical.byContradiction g) hnz
  · rintro m pc m9 ls st w hc9 ⟨rfl, rfl, b, l, r, A', hb, rfl, el, er, rfl, rfl, hR', hX', hall⟩
    obtain ⟨_, _, _, _, _, _, _, hA', hKV', _, _⟩ := ctx hC hR' hX'
    refine And.intro (fun g => ?_) (fun g => ?_)
    · have := ge_n (k := z / k) rfl (by omega) (by omega) g
      refine ⟨rfl, hy (fun b' hb' => ?_) A' hR' hX'⟩
      rw [eF, eS]
      exact hall b' (by have := (divm hk0).mpr hb'; omega)
    · have hlt := nge_n (k := z / k) rfl (by omega) (by omega) g
      have hbk : (b + 1) * k ≤ z := (divm hk0).mp hlt
      rw [Nat.succ_mul] at hbk
      have eat : nI b * F 12 = nI (b * k) := by rw [hF12, pk_mul]
      refine ⟨s, t, u, A', F, mA 1, a, m1, l, r, nI i, rfl, rfl, hR'.1, hC.2.1, fun A2 v hv hS2 => ?_⟩
      obtain ⟨hR2, hX2⟩ := run1 hC hR' hX' hS2 (by decide) rfl (KV_cg hKV' (fun t ht => hS2 (39 + t) (row8 (by omega) (by decide))))
      obtain ⟨_, _, _, _, _, _, _, hA2, _, _, _⟩ := ctx hC hR2 hX2
      refine ⟨s, t, u, A2, F, v, n, rfl, rfl, hF11, hn2, hn12, fun x hx => ?_⟩
      have ex : x = crd (mA 1 1) (vraw (mA 1) a m1 (rwS (mA 1) (mA 17) hh k b fi) (rwS (mA 1) (mA 17) hh k b se) (nI i)) := by rw [hx, hv, el, er, hn]
      have num : ∀ j, b * k + j < 40 → A2 (69 + hh) (b * k + j) = mA 17 (40 * hh + (b * k + j)) := fun j hj => hR2.2.2.2.2.2.1 hh _ hh4 hj
      refine ⟨s, t, u, A2, F, hh, b * k + i, ?_, rfl, hh4, by omega, fun y hy2 => ?_⟩
      · rw [← nI_add, ← eat]
      · rw [num i (by omega)] at hy2
        refine And.intro (fun g2 => ?_) (fun g2 => ?_)
        · have g2 : x = y := g2
          have e6 : A2 6 (nI i).toNatClampNeg = nI fi := by rw [ei, (hA2 i hi).2.2.2.1, efi]
          have e7 : A2 7 (nI i).toNatClampNeg = nI se := by rw [ei, (hA2 i hi).2.2.2.2.1, ese]
          refine And.intro i0 ?_
          refine ⟨s, t, u, A2, F, hh, b * k + fi, ?_, rfl, hh4, by omega, fun y1 hy1 => ?_⟩
          · rw [← nI_add, ← eat, ← e6]
          · refine And.intro i0 ?_
            refine ⟨s, t, u, A2, F, hh, b * k + se, ?_, rfl, hh4, by omega, fun y3 hy3 => ?_⟩
            · rw [← nI_add, ← eat, ← e7]
            · refine ⟨z / k - (b + 1), by omega, rfl, rfl, b + 1, y1, y3, A2, hlt, rfl, ?_, ?_, by rw [← nI_1 b]; rfl, rfl, hR2, hX2, fun b' hb' => ?_⟩
              · rw [hy1, num fi (by omega)]
                show mA 17 (40 * hh + (b * k + fi)) = mA 17 (40 * hh + b * k + fi)
                rw [Nat.add_assoc]
              · rw [hy3, num se (by omega)]
                show mA 17 (40 * hh + (b * k + se)) = mA 17 (40 * hh + b * k + se)
                rw [Nat.add_assoc]
              · by_cases q : b' = b
                · subst q
                  rw [← ex, g2, hy2]
                  congr 1
                  omega
                · exact hall b' (by omega)
        · have g2 : ¬ x = y := g2
          refine ⟨rfl, hno (fun q => g2 ?_) A2 hR2 hX2⟩
          have q2 := q b (by rw [Nat.succ_mul]; exact hbk)
          rw [eF, eS, ← ex] at q2
          rw [q2, hy2]
          congr 1
          omega
theorem SNk_own {D g : Nat → Int32} {h k z i : Nat} : SNk D g h k z i (D (8 + 8 * i + 0)) (D (8 + 8 * i + 1)) ↔ SN D g h k z i := Iff.rfl
theorem SNk_md {D g : Nat → Int32} {n h k z i c : Nat} (hi : i < 8) : SNk D g h k z i (nI (c / n)) (nI (c % n)) ↔ SN (mdD D n i c) g h k z i := by
  have e0 : mdD D n i c (8 + 8 * i + 0) = nI (c / n) := (pk_un (by omega)).trans pk_us
  have e1 : mdD D n i c (8 + 8 * i + 1) = nI (c % n) := pk_us
  have ef : fiN (mdD D n i c) i = fiN D i := by unfold fiN; rw [md_u (by omega) (by omega)]
  have es : seN (mdD D n i c) i = seN D i := by unfold seN; rw [md_u (by omega) (by omega)]
  have er : ∀ b t, rwS (mdD D n i c) g h k b t = rwS D g h k b t := fun b t => by
    cases b with
    | zero => exact md_u (by omega) (by omega)
    | succ b => rfl
  have ev : ∀ l r, vraw (mdD D n i c) (nI (c / n)) (nI (c % n)) l r (nI i) = vraw D (nI (c / n)) (nI (c % n)) l r (nI i) := fun l r => by
    unfold vraw
    rw [addsV_cg (d := D) (d' := mdD D n i c) (fun j hj => md_u (by omega) (by omega))]
  unfold SNk SN nxt
  rw [e0, e1, ef, es, md_u (by omega) (by omega)]
  constructor
  · intro q b hb
    rw [er, er, ev]
    exact q b hb
  · intro q b hb
    have := q b hb
    rw [er, er, ev] at this
    exact this
def sX9_fewest : XS := fun as w post => ∃ (s t u : Bool) (A : XA) (F : Nat → Int32) (mA : XA) (mF : Nat → Int32) (c n k : Nat) (x : Int32), as = [.ref 0, .int x] ∧ w = CW s t u A F ∧ CI mA mF n k ∧ Rel mA mF A F ∧ Aux (mA 1) A F c ∧ c < 2 ^ 28 ∧ cQ (qfewest x mA mF) c post
set_option maxRecDepth 10000 in
set_option maxHeartbeats 1000000 in
theorem mX9_fewest (d : Nat) (hd : 4 ≤ d) : xCT d yX9_fewest cX9_fewest 4 (some .int) sX9_fewest := by
  obtain ⟨d, rfl⟩ : ∃ e, d = e + 1 := ⟨d - 1, by omega⟩
  refine xmet (tb := tX9_fewest) (fl := fX9) (kc := nX9) (gs := g0) (cl := xlk [(145, false, 1, sX9_isSheet), (86, true, 2, xrcv 9 (sX9_fail)), (148, true, 2, xrcv 6 (sX6_isMissing_W)), (264, true, 5, xrcv 9 (sX9_isOdd))]) (by decide) tX9_fewest_ok fX9_ok nX9_ok g0_ok (xg_cons (k_X9_145 (mX9_isSheet d (by omega))) (xg_cons (k_X9_86 (mX9_fail d (by omega))) (xg_cons (k_X9_148 (mX6_isMissing_W d (by omega))) (xg_cons (k_X9_264 (mX9_isOdd d (by omega))) xg_nil)))) ?_
  rintro L xs as w Qp ⟨s, t, u, A, F, mA, mF, c, n, k, x, rfl, rfl, hC, hR, hX, hc, h⟩
  obtain ⟨hn, hn2, hn12, hk, hk8, hF11, hF12, hA, hKV, h54, h58⟩ := ctx hC hR hX
  obtain ⟨eN, eK⟩ := DI_nk hC.1
  refine ⟨Nat.le_of_ble_eq_true rfl, 400, xlk [(34, 4)], fun m pc ls st w => pc = 34 ∧ st = [] ∧ ∃ a z i v A', a < 4 ∧ x = nI a ∧ z ≤ 40 ∧ mA 16 a = nI z ∧ ¬ mA 15 a = 0 ∧ i ≤ k ∧ m = k - i ∧ v = nI (cntP (fun t => ¬ SN (mA 1) (mA 17) a k z t) i) ∧ ls = [(0, .ref 0), (1, .int (nI a)), (2, .int v), (3, .int (nI i))] ∧ w = CW s t u A' F ∧ Rel mA mF A' F ∧ Aux (mA 1) A' F c, ?_, ?_⟩
  · refine ⟨x, rfl, fun i hi e => ?_, fun g => ?_⟩
    · subst e
      refine br_t xc_ne1 ?_
      have ei : (nI i).toNatClampNeg = i := cl (by omega)
      obtain ⟨e66, e67⟩ := hR.2.2.2.2.1 i hi
      obtain ⟨z0, hz0, ez0⟩ := hC.2.2.2.1 i hi
      refine ⟨s, t, u, A, F, i, rfl, rfl, hi, fun g => ?_, fun g => ?_⟩
      · refine br_f xc_eq1 ?_
        refine ⟨s, t, u, A, F, 2, rfl, rfl, by decide, by decide, ?_⟩
        exact cQ_e h (cif_t' (isH_i hi) (cif_t' (by rw [ei, ← e66]; exact g) rfl)) hR hX
      · refine br_t xc_eq0 ?_
        exact ⟨k, rfl, rfl, i, z0, 0, 0, A, hi, rfl, by omega, ez0, by rw [← e66]; exact g, Nat.zero_le _, rfl, rfl, rfl, rfl, hR, hX⟩
    · refine br_f xc_ne0 ?_
      refine ⟨s, t, u, A, F, 1, rfl, rfl, by decide, by decide, ?_⟩
      exact cQ_e h (cif_f' (isH_n g) rfl) hR hX
  · rintro m pc m9 ls st w hc9 ⟨rfl, rfl, a, z, i, v, A', ha, rfl, hz, ez, hb, hi, rfl, hv, rfl, rfl, hR', hX'⟩
    have ea : (nI a).toNatClampNeg = a := cl (by omega)
    obtain ⟨_, _, _, _, _, _, _, hA', hKV', _, _⟩ := ctx hC hR' hX'
    have hle := cntP_le (fun t => ¬ SN (mA 1) (mA 17) a k z t) i
    refine And.intro (fun g => ?_) (fun g => ?_)
    · have := ge_n hF12 (by omega) (by omega) g
      refine cQ_s h (cif_t' (isH_i ha) (cif_f' (by rw [ea]; exact hb) ?_)) hR' hX'
      rw [ea, ez, cl (by omega), eK, hv, show i = k by omega]
    · have hlt := nge_n hF12 (by omega) (by omega) g
      have ei : (nI i).toNatClampNeg = i := cl (by omega)
      have i0 : vp_in (nI i) 8 := vp_in_nI (by omega) (by decide)
      have e2 : A' 2 (nI i).toNatClampNeg = mA 1 (8 + 8 * i + 0) := by rw [ei]; exact (hA' i hlt).1
      have e3 : A' 3 (nI i).toNatClampNeg = mA 1 (8 + 8 * i + 1) := by rw [ei]; exact (hA' i hlt).2.1
      refine And.intro i0 (And.intro i0 ?_)
      refine ⟨s, t, u, A', F, mA, mF, c, n, k, a, i, z, mA 1 (8 + 8 * i + 0), mA 1 (8 + 8 * i + 1), by rw [← e2, ← e3], rfl, hC, hR', hX', ha, hlt, ez, hz, fun q A2 hR2 hX2 => ?_, fun q A2 hR2 hX2 => ?_⟩
      · refine br_t xc_eq0 ?_
        have e : cntP (fun t => ¬ SN (mA 1) (mA 17) a k z t) (i + 1) = cntP (fun t => ¬ SN (mA 1) (mA 17) a k z t) i := cif_f (fun q2 => q2 (SNk_own.mp q))
        exact ⟨k - (i + 1), by omega, rfl, rfl, a, z, i + 1, v, A2, ha, rfl, hz, ez, hb, hlt, rfl, by rw [e]; exact hv, by rw [← nI_1 i]; rfl, rfl, hR2, hX2⟩
      · refine br_f xc_eq1 ?_
        have e : cntP (fun t => ¬ SN (mA 1) (mA 17) a k z t) (i + 1) = cntP (fun t => ¬ SN (mA 1) (mA 17) a k z t) i + 1 := cif_t (fun q2 => q (SNk_own.mpr q2))
        exact ⟨k - (i + 1), by omega, rfl, rfl, a, z, i + 1, v + 1, A2, ha, rfl, hz, ez, hb, hlt, rfl, by rw [e, hv, nI_1], by rw [← nI_1 i]; rfl, rfl, hR2, hX2⟩
def sX9_firstMaking : XS := fun as w post => ∃ (s t u : Bool) (A : XA) (F : Nat → Int32) (mA : XA) (mF : Nat → Int32) (c n k h i z : Nat), as = [.ref 0, .int (nI h), .int (nI i)] ∧ w = CW s t u A F ∧ CI mA mF n k ∧ Rel mA mF A F ∧ Aux (mA 1) A F c ∧ h < 4 ∧ i < k ∧ mA 16 h = nI z ∧ z ≤ 40 ∧ ∀ A' v l, Rel mA mF A' F → Aux (mA 1) A' F c → l = lead (fun c => ¬ SN (mdD (mA 1) n i c) (mA 17) h k z i) (6 * n) → v = cif (l = 6 * n) (-1) (100 * nI (l / n) + nI (l % n)) → post (some (.int v)) (CW s t u A' F)
set_option maxRecDepth 10000 in
set_option maxHeartbeats 1000000 in
theorem mX9_firstMaking (d : Nat) (hd : 4 ≤ d) : xCT d yX9_firstMaking cX9_firstMaking 5 (some .int) sX9_firstMaking := by
  obtain ⟨d, rfl⟩ : ∃ e, d = e + 1 := ⟨d - 1, by omega⟩
  refine xmet (tb := tX9_firstMaking) (fl := fX9) (kc := nX9) (gs := g0) (cl := xlk [(264, true, 5, xrcv 9 (sX9_isOdd))]) (by decide) tX9_firstMaking_ok fX9_ok nX9_ok g0_ok (xg_cons (k_X9_264 (mX9_isOdd d (by omega))) xg_nil) ?_
  rintro L xs as w Qp ⟨s, t, u, A, F, mA, mF, c, n, k, hh, i, z, rfl, rfl, hC, hR, hX, hh4, hi, ez, hz, h⟩
  obtain ⟨hn, hn2, hn12, hk, hk8, hF11, hF12, hA, hKV, h54, h58⟩ := ctx hC hR hX
  refine ⟨Nat.le_of_ble_eq_true rfl, 400, xlk [(2, 4), (10, 5)], fun m pc ls st w => st = [] ∧ ∃ κ A', w = CW s t u A' F ∧ Rel mA mF A' F ∧ Aux (mA 1) A' F c ∧ ((pc = 2 ∧ κ ≤ 6 ∧ m = 1000 - κ * 100 ∧ ls = [(0, .ref 0), (1, .int (nI hh)), (2, .int (nI i)), (3, .int (nI κ))] ∧ lead (fun c => ¬ SN (mdD (mA 1) n i c) (mA 17) hh k z i) (κ * n) = κ * n) ∨ (pc = 10 ∧ κ < 6 ∧ ∃ v, v ≤ n ∧ m = 1000 - κ * 100 - 1 - v ∧ ls = [(0, .ref 0), (1, .int (nI hh)), (2, .int (nI i)), (3, .int (nI κ)), (4, .int (nI v))] ∧ lead (fun c => ¬ SN (mdD (mA 1) n i c) (mA 17) hh k z i) (κ * n + v) = κ * n + v)), ?_, ?_⟩
  · exact ⟨1000 - 0 * 100, rfl, 0, A, rfl, hR, hX, Or.inl ⟨rfl, by omega, rfl, rfl, by rw [Nat.zero_mul]; rfl⟩⟩
  · rintro m pc m9 ls st w hc9 ⟨rfl, κ, A', rfl, hR', hX', ⟨rfl, hκ, rfl, rfl, hL⟩ | ⟨rfl, hκ, v, hv, rfl, rfl, hL⟩⟩
    · refine And.intro (fun g => ?_) (fun g => ?_)
      · have g : nI 5 < nI κ := g
        rw [fa_lt, nI_toInt (by omega), nI_toInt (by omega)] at g
        have eκ : κ = 6 := by omega
        subst eκ
        exact h A' _ _ hR' hX' hL.symm (cif_t rfl).symm
      · have g : ¬ nI 5 < nI κ := g
        rw [fa_lt, nI_toInt (by omega), nI_toInt (by omega)] at g
        exact ⟨1000 - κ * 100 - 1 - 0, by omega, rfl, κ, A', rfl, hR', hX', Or.inr ⟨rfl, by omega, 0, Nat.zero_le _, rfl, rfl, hL⟩⟩
    · refine And.intro (fun g => ?_) (fun g => ?_)
      · have := ge_n hF11 (by omega) (by omega) g
        refine ⟨1000 - (κ + 1) * 100, by omega, rfl, κ + 1, A', rfl, hR', hX', Or.inl ⟨rfl, hκ, rfl, by rw [← nI_1 κ]; rfl, ?_⟩⟩
        rw [Nat.succ_mul, ← show v = n by omega]
        rw [← show v = n by omega] at hL
        exact hL
      · have hlt := nge_n hF11 (by omega) (by omega) g
        have d1 : (κ * n + v) / n = κ := by rw [Nat.mul_comm, Nat.mul_add_div (by omega), Nat.div_eq_of_lt hlt, Nat.add_zero]
        have d2 : (κ * n + v) % n = v := by rw [Nat.mul_comm, Nat.mul_add_mod, Nat.mod_eq_of_lt hlt]
        have em := SNk_md (D := mA 1) (g := mA 17) (n := n) (h := hh) (k := k) (z := z) (i := i) (c := κ * n + v) (by omega)
        rw [d1, d2] at em
        have hcn : κ * n + v < 6 * n := by
          have : (κ + 1) * n ≤ 6 * n := Nat.mul_le_mul_right n hκ
          rw [Nat.succ_mul] at this
          omega
        refine ⟨s, t, u, A', F, mA, mF, c, n, k, hh, i, z, nI κ, nI v, rfl, rfl, hC, hR', hX', hh4, hi, ez, hz, fun q A2 hR2 hX2 => ?_, fun q A2 hR2 hX2 => ?_⟩
        · refine br_f xc_ne0 ?_
          have e1 : lead (fun c => ¬ SN (mdD (mA 1) n i c) (mA 17) hh k z i) (6 * n) = κ * n + v := lead_stop hL (fun q2 => q2 (em.mp q)) (6 * n) (by omega)
          refine h A2 _ (κ * n + v) hR2 hX2 e1.symm ?_
          rw [cif_f (by omega), d1, d2]
          rfl
        · refine br_t xc_ne1 ?_
          exact ⟨1000 - κ * 100 - 1 - (v + 1), by omega, rfl, κ, A2, rfl, hR2, hX2, Or.inr ⟨rfl, hκ, v + 1, hlt, rfl, by rw [← nI_1 v]; rfl, lead_go hL (fun q2 => q (em.mpr q2))⟩⟩
def sX9_made : XS := fun as w post => ∃ (s t u : Bool) (A : XA) (F : Nat → Int32) (mA : XA) (mF : Nat → Int32) (c n k : Nat) (x y : Int32), as = [.ref 0, .int x, .int y] ∧ w = CW s t u A F ∧ CI mA mF n k ∧ Rel mA mF A F ∧ Aux (mA 1) A F c ∧ c < 2 ^ 28 ∧ cQ (qmade x y mA mF) c post
set_option maxRecDepth 10000 in
set_option maxHeartbeats 1000000 in
theorem mX9_made (d : Nat) (hd : 5 ≤ d) : xCT d yX9_made cX9_made 6 (some .int) sX9_made := by
  obtain ⟨d, rfl⟩ : ∃ e, d = e + 1 := ⟨d - 1, by omega⟩
  refine xmet (tb := tX9_made) (fl := fX9) (kc := nX9) (gs := g0) (cl := xlk [(145, false, 1, sX9_isSheet), (117, true, 2, xrcv 1 (sX1_has_W)), (86, true, 2, xrcv 9 (sX9_fail)), (148, true, 2, xrcv 6 (sX6_isMissing_W)), (264, true, 5, xrcv 9 (sX9_isOdd)), (268, true, 3, xrcv 9 (sX9_firstMaking))]) (by decide) tX9_made_ok fX9_ok nX9_ok g0_ok (xg_cons (k_X9_145 (mX9_isSheet d (by omega))) (xg_cons (k_X9_117 (mX1_has_W d (by omega))) (xg_cons (k_X9_86 (mX9_fail d (by omega))) (xg_cons (k_X9_148 (mX6_isMissing_W d (by omega))) (xg_cons (k_X9_264 (mX9_isOdd d (by omega))) (xg_cons (k_X9_268 (mX9_firstMaking d (by omega))) xg_nil)))))) ?_
  rintro L xs as w Qp ⟨s, t, u, A, F, mA, mF, c, n, k, x, y, rfl, rfl, hC, hR, hX, hc, h⟩
  obtain ⟨hn, hn2, hn12, hk, hk8, hF11, hF12, hA, hKV, h54, h58⟩ := ctx hC hR hX
  obtain ⟨eN, eK⟩ := DI_nk hC.1
  refine ⟨Nat.le_of_ble_eq_true rfl, 400, xlk [(92, 6)], fun m pc ls st w => pc = 92 ∧ st = [] ∧ m = 0 ∧ ∃ a i v A' l3 l4, a < 4 ∧ x = nI a ∧ i < k ∧ y = nI i ∧ ¬ mA 15 a = 0 ∧ v = mdV mA a i ∧ ls = [(0, .ref 0), (1, .int x), (2, .int y), (3, l3), (4, l4), (5, .int v)] ∧ w = CW s t u A' F ∧ Rel mA mF A' F ∧ Aux (mA 1) A' F c, ?_, ?_⟩
  · refine ⟨x, rfl, fun a ha e => ?_, fun g => ?_⟩
    · refine br_f xc_eq1 ?_
      have ea : (nI a).toNatClampNeg = a := cl (by omega)
      obtain ⟨e66, e67⟩ := hR.2.2.2.2.1 a ha
      obtain ⟨z0, hz0, ez0⟩ := hC.2.2.2.1 a ha
      refine ⟨s, t, u, A, F, y, k, rfl, rfl, hF12, hk8, fun i hi es => ?_, fun g => ?_⟩
      · refine br_t xc_ne1 ?_
        subst e es
        have hHS : isH (nI a) ∧ isS (mA 1) (nI i) := ⟨isH_i ha, isS_i hk hk8 hi⟩
        refine ⟨s, t, u, A, F, a, rfl, rfl, ha, fun g => ?_, fun g => ?_⟩
        · refine br_f xc_eq1 ?_
          refine ⟨s, t, u, A, F, 2, rfl, rfl, by decide, by decide, ?_⟩
          exact cQ_e h (cif_t' hHS (cif_t' (by rw [ea, ← e66]; exact g) rfl)) hR hX
        · refine br_t xc_eq0 ?_
          have nm : ¬ mA 15 a = 0 := by rw [← e66]; exact g
          have ei : (nI i).toNatClampNeg = i := cl (by omega)
          have i0 : vp_in (nI i) 8 := vp_in_nI (by omega) (by decide)
          have e2 : A 2 (nI i).toNatClampNeg = mA 1 (8 + 8 * i + 0) := by rw [ei]; exact (hA i hi).1
          have e3 : A 3 (nI i).toNatClampNeg = mA 1 (8 + 8 * i + 1) := by rw [ei]; exact (hA i hi).2.1
          refine And.intro i0 (And.intro i0 ?_)
          refine ⟨s, t, u, A, F, mA, mF, c, n, k, a, i, z0, mA 1 (8 + 8 * i + 0), mA 1 (8 + 8 * i + 1), by rw [← e2, ← e3], rfl, hC, hR, hX, ha, hi, ez0, by omega, fun q A2 hR2 hX2 => ?_, fun q A2 hR2 hX2 => ?_⟩
          · refine br_t xc_eq0 ?_
            refine ⟨0, rfl, rfl, rfl, a, i, 100 * A 2 (nI i).toNatClampNeg + A 3 (nI i).toNatClampNeg, A2, .int (A 2 (nI i).toNatClampNeg), .int (A 3 (nI i).toNatClampNeg), ha, rfl, hi, rfl, nm, ?_, rfl, rfl, hR2, hX2⟩
            have ecz : (nI z0).toNatClampNeg = z0 := cl (by omega)
            unfold mdV
            rw [eK, ez0, ecz, cif_t (SNk_own.mp q), e2, e3]
          · refine br_f xc_eq1 ?_
            refine ⟨s, t, u, A2, F, mA, mF, c, n, k, a, i, z0, rfl, rfl, hC, hR2, hX2, ha, hi, ez0, by omega, fun A3 v l hR3 hX3 hl hv => ?_⟩
            refine ⟨0, rfl, rfl, rfl, a, i, v, A3, .int (A 2 (nI i).toNatClampNeg), .int (A 3 (nI i).toNatClampNeg), ha, rfl, hi, rfl, nm, ?_, rfl, rfl, hR3, hX3⟩
            have ecz : (nI z0).toNatClampNeg = z0 := cl (by omega)
            unfold mdV mdL
            rw [eK, eN, ez0, ecz, cif_f (fun q2 => q (SNk_own.mpr q2)), ← hl]
            exact hv
      · refine br_f xc_ne0 ?_
        refine ⟨s, t, u, A, F, 1, rfl, rfl, by decide, by decide, ?_⟩
        exact cQ_e h (cif_f' (fun q => isS_n hk hk8 g q.2) rfl) hR hX
    · refine br_t xc_eq0 ?_
      refine ⟨s, t, u, A, F, 1, rfl, rfl, by decide, by decide, ?_⟩
      exact cQ_e h (cif_f' (fun q => isH_n g q.1) rfl) hR hX
  · rintro m pc m9 ls st w hc9 ⟨rfl, rfl, rfl, a, i, v, A', l3, l4, ha, rfl, hi, rfl, nm, hv, rfl, rfl, hR', hX'⟩
    have ea : (nI a).toNatClampNeg = a := cl (by omega)
    have ei : (nI i).toNatClampNeg = i := cl (by omega)
    have hHS : isH (nI a) ∧ isS (mA 1) (nI i) := ⟨isH_i ha, isS_i hk hk8 hi⟩
    refine And.intro (fun g => ?_) (fun g => ?_)
    · have g : 0 ≤ v := g
      refine cQ_s h (cif_t' hHS (cif_f' (by rw [ea]; exact nm) (cif_f' ?_ (by rw [ea, ei, hv])))) hR' hX'
      rw [ea, ei, ← hv]
      exact fun q => (fa_of_lt q).2.1 g
    · have g : ¬ 0 ≤ v := g
      refine ⟨s, t, u, A', F, 2, rfl, rfl, by decide, by decide, ?_⟩
      exact cQ_e h (cif_t' hHS (cif_f' (by rw [ea]; exact nm) (cif_t' (by rw [ea, ei, ← hv]; exact fa_of_nle g) rfl))) hR' hX'
