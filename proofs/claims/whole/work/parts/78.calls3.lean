/-! ===== the class's calls: ring, sing, notes, singer, ofSinger, begin ===== -/
theorem hearU_3 {d : Nat → Int32} {k i : Nat} (hi : i < k) : hearU d k k (8 + 8 * i + 3) = cif (d (8 + 8 * i + 6) = 0) (nI ((i + k - 1) % k)) (d (8 + 8 * i + 3)) := by
  unfold hearU
  have e1 : (8 + 8 * i + 3 - 8) / 8 = i := by omega
  have e2 : (8 + 8 * i + 3 - 8) % 8 = 3 := by omega
  rw [e1, e2]
  by_cases g : d (8 + 8 * i + 6) = 0
  · rw [if_pos ⟨by omega, hi, rfl, g⟩, cif_t g]
  · rw [if_neg (fun q => g q.2.2.2), if_neg (fun q => g q.2.2.2), cif_f g]
theorem hearU_4 {d : Nat → Int32} {k i : Nat} (hi : i < k) : hearU d k k (8 + 8 * i + 4) = cif (d (8 + 8 * i + 6) = 0) (nI ((i + 2 * k - 2) % k)) (d (8 + 8 * i + 4)) := by
  unfold hearU
  have e1 : (8 + 8 * i + 4 - 8) / 8 = i := by omega
  have e2 : (8 + 8 * i + 4 - 8) % 8 = 4 := by omega
  rw [e1, e2]
  by_cases g : d (8 + 8 * i + 6) = 0
  · rw [if_neg (fun q => absurd q.2.2.1 (by decide)), if_pos ⟨by omega, hi, rfl, g⟩, cif_t g]
  · rw [if_neg (fun q => g q.2.2.2), if_neg (fun q => g q.2.2.2), cif_f g]
def sX9_ring : XS := fun as w post => ∃ (s t u : Bool) (A : XA) (F : Nat → Int32) (mA : XA) (mF : Nat → Int32) (c n k : Nat) (x : Int32), as = [.ref 0, .int x] ∧ w = CW s t u A F ∧ CI mA mF n k ∧ Rel mA mF A F ∧ Aux (mA 1) A F c ∧ c < 2 ^ 28 ∧ cQ (qring x mA mF) c post
set_option maxRecDepth 10000 in
set_option maxHeartbeats 1000000 in
theorem mX9_ring (d : Nat) (hd : 1 ≤ d) : xCT d yX9_ring cX9_ring 3 (some .int) sX9_ring := by
  obtain ⟨d, rfl⟩ : ∃ e, d = e + 1 := ⟨d - 1, by omega⟩
  refine xmet0 (tb := tX9_ring) (fl := fX9) (kc := nX9) (gs := g0) (cl := xlk [(117, true, 2, xrcv 1 (sX1_has_W)), (86, true, 2, xrcv 9 (sX9_fail)), (142, true, 1, xrcv 1 (sX1_hearAsInRing_W))]) 400 (by decide) tX9_ring_ok fX9_ok nX9_ok g0_ok (xg_cons (k_X9_117 (mX1_has_W d (by omega))) (xg_cons (k_X9_86 (mX9_fail d (by omega))) (xg_cons (k_X9_142 (mX1_hearAsInRing_W d (by omega))) xg_nil))) ?_
  rintro L xs as w Qp ⟨s, t, u, A, F, mA, mF, c, n, k, x, rfl, rfl, hC, hR, hX, hc, h⟩
  obtain ⟨hn, hn2, hn12, hk, hk8, hF11, hF12, hA, hKV, h54, h58⟩ := ctx hC hR hX
  refine ⟨Nat.le_of_ble_eq_true rfl, ?_⟩
  refine ⟨s, t, u, A, F, x, k, rfl, rfl, hF12, hk8, fun i hi es => ?_, fun g => ?_⟩
  · subst es
    refine br_t xc_ne1 ?_
    have ei : (nI i).toNatClampNeg = i := cl (by omega)
    have i0 : vp_in (nI i) 8 := vp_in_nI (by omega) (by decide)
    refine And.intro i0 (And.intro i0 ?_)
    have u8 : upd (A 8) (nI i).toNatClampNeg 0 = upd (A 8) i 0 := by rw [ei]
    refine ⟨s, t, u, aset A 8 (upd (A 8) i 0), F, k, rfl, cwset8 u8, hF12, hk8, fun A2 hS2 h6 h7 => ?_⟩
    have hS : sm [8, 6, 7] A2 A := sm_tr (sm_aset (q := 8) rfl) (sm_w hS2 rfl)
    have uD : ∀ j, (∀ i, i < k → j ≠ 8 + 8 * i + 3 ∧ j ≠ 8 + 8 * i + 4) → j ≠ 8 + 8 * i + 6 → hearU (upd (mA 1) (8 + 8 * i + 6) 0) k k j = mA 1 j := fun j a b => (hearU_at a).trans (pk_un b)
    have d6 : ∀ j, j < k → A2 8 j = upd (mA 1) (8 + 8 * i + 6) 0 (8 + 8 * j + 6) := fun j hj => by
      rw [hS2 8 rfl]
      show upd (A 8) i 0 j = _
      by_cases q : j = i
      · subst q
        rw [pk_us, pk_us]
      · rw [pk_un q, pk_un (by omega)]
        exact (hA j hj).2.2.2.2.2.2
    have d8 : ∀ j, j < k → upd (A 8) i 0 j = upd (mA 1) (8 + 8 * i + 6) 0 (8 + 8 * j + 6) := fun j hj => by
      rw [← d6 j hj, hS2 8 rfl]
      rfl
    have h9 := cQ_ch (s := s) (t := t) (u := u) (A' := A2) (F' := F) (v := A 8 (nI i).toNatClampNeg) (c' := c) (hearU (upd (mA 1) (8 + 8 * i + 6) 0) k k) h (cif_t' (isS_i hk hk8 hi) (by rw [ei, (hA i hi).2.2.2.2.2.2, hk, cl (by omega)])) hR (sm_w hS rfl) fsm_rf (CRsg hR.1 (fun j hj => uD j (fun i hi => by omega) (by omega)) (uD _ (fun i hi => by omega) (by omega)) (uD _ (fun i hi => by omega) (by omega)) (uD _ (fun i hi => by omega) (by omega)) (uD _ (fun i hi => by omega) (by omega)) (hR.1.2.2.1.trans (uD _ (fun i hi => by omega) (by omega)).symm) (hR.1.2.2.2.1.trans (uD _ (fun i hi => by omega) (by omega)).symm) rfl rfl rfl rfl rfl rfl (hS 9 rfl) (hS 10 rfl) (hS 12 rfl) (hS 16 rfl) (fun j hj => ?_)) (by rw [hS 9 rfl]; exact hR.2.2.2.2.2.2.2.1) (Aux_i ((uD _ (fun i hi => by omega) (by omega)).trans hn) ((uD _ (fun i hi => by omega) (by omega)).trans hk) hn12 hk8 (KV_dcg (KV_cg hKV (fun t ht => ?_)) (fun j hj => uD j (fun i hi => by omega) (by omega)) (uD _ (fun i hi => by omega) (by omega)) (fun j hj => ⟨uD _ (fun i hi => by omega) (by omega), uD _ (fun i hi => by omega) (by omega)⟩)) h54 (fun q hq => by rw [hS 58 rfl]; exact h58 q hq))
    · exact h9
    · have hjk : j < k := by
        have := hj
        rw [hk, cl (by omega)] at this
        exact this
      obtain ⟨a0, a1, a2, a3, a4, a5, a6⟩ := hA j hjk
      rw [uD (8 + 8 * j + 0) (fun i hi => by omega) (by omega), uD (8 + 8 * j + 1) (fun i hi => by omega) (by omega), uD (8 + 8 * j + 2) (fun i hi => by omega) (by omega), uD (8 + 8 * j + 5) (fun i hi => by omega) (by omega), hearU_told, hearU_3 hjk, hearU_4 hjk]
      refine ⟨(congrFun (hS 2 rfl) j).trans a0, (congrFun (hS 3 rfl) j).trans a1, (congrFun (hS 4 rfl) j).trans a2, ?_, ?_, (congrFun (hS 5 rfl) j).trans a5, d6 j hjk⟩
      · show A2 6 j = _
        have e := h6 j hjk
        have e : A2 6 j = cif (upd (A 8) i 0 j = 0) (nI ((j + k - 1) % k)) (A 6 j) := e
        rw [e, d8 j hjk, a3, pk_un (show 8 + 8 * j + 3 ≠ 8 + 8 * i + 6 by omega)]
      · show A2 7 j = _
        have e : A2 7 j = cif (upd (A 8) i 0 j = 0) (nI ((j + 2 * k - 2) % k)) (A 7 j) := h7 j hjk
        rw [e, d8 j hjk, a4, pk_un (show 8 + 8 * j + 4 ≠ 8 + 8 * i + 6 by omega)]
    · exact hS (39 + t) (by rcases h8 (show t < 8 by omega) with rfl | rfl | rfl | rfl | rfl | rfl | rfl | rfl <;> rfl)
  · refine br_f xc_ne0 ?_
    refine ⟨s, t, u, A, F, 1, rfl, rfl, by decide, by decide, ?_⟩
    exact cQ_e h (cif_f' (isS_n hk hk8 g) rfl) hR hX
theorem row8 {t : Nat} (h : t < 8) {l : List Nat} (hl : [39, 40, 41, 42, 43, 44, 45, 46].all (fun x => !(l.contains x)) = true) : l.contains (39 + t) = false := by
  have h1 := List.all_eq_true.mp hl (39 + t) (by rcases h8 h with rfl | rfl | rfl | rfl | rfl | rfl | rfl | rfl <;> decide)
  cases hc : l.contains (39 + t) with
  | false => rfl
  | true => rw [hc] at h1; cases h1
def sX9_sing : XS := fun as w post => ∃ (s t u : Bool) (A : XA) (F : Nat → Int32) (mA : XA) (mF : Nat → Int32) (c n k : Nat) (x y z : Int32), as = [.ref 0, .int x, .int y, .int z] ∧ w = CW s t u A F ∧ CI mA mF n k ∧ Rel mA mF A F ∧ Aux (mA 1) A F c ∧ c < 2 ^ 28 ∧ cQ (qsing x y z mA mF) c post
set_option maxRecDepth 10000 in
set_option maxHeartbeats 1000000 in
theorem mX9_sing (d : Nat) (hd : 1 ≤ d) : xCT d yX9_sing cX9_sing 6 (some .int) sX9_sing := by
  obtain ⟨d, rfl⟩ : ∃ e, d = e + 1 := ⟨d - 1, by omega⟩
  refine xmet0 (tb := tX9_sing) (fl := fX9) (kc := nX9) (gs := g0) (cl := xlk [(117, true, 2, xrcv 1 (sX1_has_W)), (82, false, 3, sX9_within), (86, true, 2, xrcv 9 (sX9_fail))]) 400 (by decide) tX9_sing_ok fX9_ok nX9_ok g0_ok (xg_cons (k_X9_117 (mX1_has_W d (by omega))) (xg_cons (k_X9_82 (mX9_within d (by omega))) (xg_cons (k_X9_86 (mX9_fail d (by omega))) xg_nil))) ?_
  rintro L xs as w Qp ⟨s, t, u, A, F, mA, mF, c, n, k, x, y, z, rfl, rfl, hC, hR, hX, hc, h⟩
  obtain ⟨hn, hn2, hn12, hk, hk8, hF11, hF12, hA, hKV, h54, h58⟩ := ctx hC hR hX
  refine ⟨Nat.le_of_ble_eq_true rfl, ?_⟩
  have bad : ¬ (isS (mA 1) x ∧ (0 ≤ y ∧ y ≤ 1) ∧ (-y ≤ z ∧ z ≤ mA 1 1 - 1)) → Qp (some (.int (lo 1))) (CW s t u (aset A 82 (upd (A 82) 1 (A 82 1 + 1))) F) := fun q => cQ_e h (cif_f' q rfl) hR hX
  refine ⟨s, t, u, A, F, x, k, rfl, rfl, hF12, hk8, fun i hi es => ?_, fun g => ?_⟩
  · subst es
    refine br_f xc_eq1 ?_
    have ei : (nI i).toNatClampNeg = i := cl (by omega)
    have i0 : vp_in (nI i) 8 := vp_in_nI (by omega) (by decide)
    refine ⟨y, 0, 1, rfl, fun g1 g2 => ?_, fun g => ?_⟩
    · refine br_f xc_eq1 ?_
      refine ⟨z, -y, F 11 - 1, rfl, fun g3 g4 => ?_, fun g => ?_⟩
      · have g4 : z ≤ mA 1 1 - 1 := by rw [hn, ← hF11]; exact g4
        refine br_t xc_ne1 ?_
        refine And.intro (fun g5 => ?_) (fun g5 => ?_)
        · have g5 : ¬ y = 0 := g5
          refine And.intro i0 (And.intro i0 ?_)
          have u5 : upd (A 5) (nI i).toNatClampNeg z = upd (A 5) i z := by rw [ei]
          have h9 := cQ_ch (s := s) (t := t) (u := u) (A' := aset A 5 (upd (A 5) i z)) (F' := F) (v := A 5 (nI i).toNatClampNeg) (c' := c) (upd (mA 1) (8 + 8 * i + 5) z) h (cif_t' ⟨isS_i hk hk8 hi, ⟨g1, g2⟩, g3, g4⟩ (cif_f' g5 (by rw [ei, (hA i hi).2.2.2.2.2.1]))) hR (sm_aset rfl) fsm_rf (CRsg hR.1 (fun j hj => pk_un (by omega)) (pk_un (by omega)) (pk_un (by omega)) (pk_un (by omega)) (pk_un (by omega)) (hR.1.2.2.1.trans (pk_un (by omega)).symm) (hR.1.2.2.2.1.trans (pk_un (by omega)).symm) rfl rfl rfl rfl rfl rfl rfl rfl rfl rfl (fun j hj => ?_)) hR.2.2.2.2.2.2.2.1 (Aux_i ((pk_un (by omega)).trans hn) ((pk_un (by omega)).trans hk) hn12 hk8 (KV_dcg (KV_cg hKV (fun t ht => asN (by omega))) (fun j hj => pk_un (by omega)) (pk_un (by omega)) (fun i hi => ⟨pk_un (by omega), pk_un (by omega)⟩)) h54 h58)
          · rw [← cwset5 u5] at h9
            exact h9
          · obtain ⟨a0, a1, a2, a3, a4, a5, a6⟩ := hR.1.2.2.2.2.2.2.1 j hj
            rw [pk_un (show 8 + 8 * j + 0 ≠ 8 + 8 * i + 5 by omega), pk_un (show 8 + 8 * j + 1 ≠ 8 + 8 * i + 5 by omega), pk_un (show 8 + 8 * j + 2 ≠ 8 + 8 * i + 5 by omega), pk_un (show 8 + 8 * j + 3 ≠ 8 + 8 * i + 5 by omega), pk_un (show 8 + 8 * j + 4 ≠ 8 + 8 * i + 5 by omega), pk_un (show 8 + 8 * j + 6 ≠ 8 + 8 * i + 5 by omega)]
            refine ⟨a0, a1, a2, a3, a4, ?_, a6⟩
            show upd (A 5) i z j = _
            by_cases q : j = i
            · subst q
              rw [pk_us, pk_us]
            · rw [pk_un q, pk_un (by omega)]
              exact a5
        · have g5 : y = 0 := Classical.byContradiction g5
          refine And.intro i0 (And.intro i0 ?_)
          have u4 : upd (A 4) (nI i).toNatClampNeg z = upd (A 4) i z := by rw [ei]
          have h9 := cQ_ch (s := s) (t := t) (u := u) (A' := aset A 4 (upd (A 4) i z)) (F' := F) (v := A 4 (nI i).toNatClampNeg) (c' := c) (upd (mA 1) (8 + 8 * i + 2) z) h (cif_t' ⟨isS_i hk hk8 hi, ⟨g1, g2⟩, g3, g4⟩ (cif_t' g5 (by rw [ei, (hA i hi).2.2.1]))) hR (sm_aset rfl) fsm_rf (CRsg hR.1 (fun j hj => pk_un (by omega)) (pk_un (by omega)) (pk_un (by omega)) (pk_un (by omega)) (pk_un (by omega)) (hR.1.2.2.1.trans (pk_un (by omega)).symm) (hR.1.2.2.2.1.trans (pk_un (by omega)).symm) rfl rfl rfl rfl rfl rfl rfl rfl rfl rfl (fun j hj => ?_)) hR.2.2.2.2.2.2.2.1 (Aux_i ((pk_un (by omega)).trans hn) ((pk_un (by omega)).trans hk) hn12 hk8 (KV_dcg (KV_cg hKV (fun t ht => asN (by omega))) (fun j hj => pk_un (by omega)) (pk_un (by omega)) (fun i hi => ⟨pk_un (by omega), pk_un (by omega)⟩)) h54 h58)
          · rw [← cwset4 u4] at h9
            exact h9
          · obtain ⟨a0, a1, a2, a3, a4, a5, a6⟩ := hR.1.2.2.2.2.2.2.1 j hj
            rw [pk_un (show 8 + 8 * j + 0 ≠ 8 + 8 * i + 2 by omega), pk_un (show 8 + 8 * j + 1 ≠ 8 + 8 * i + 2 by omega), pk_un (show 8 + 8 * j + 5 ≠ 8 + 8 * i + 2 by omega), pk_un (show 8 + 8 * j + 3 ≠ 8 + 8 * i + 2 by omega), pk_un (show 8 + 8 * j + 4 ≠ 8 + 8 * i + 2 by omega), pk_un (show 8 + 8 * j + 6 ≠ 8 + 8 * i + 2 by omega)]
            refine ⟨a0, a1, ?_, a3, a4, a5, a6⟩
            show upd (A 4) i z j = _
            by_cases q : j = i
            · subst q
              rw [pk_us, pk_us]
            · rw [pk_un q, pk_un (by omega)]
              exact a2
      · refine br_f xc_ne0 ?_
        refine ⟨s, t, u, A, F, 1, rfl, rfl, by decide, by decide, ?_⟩
        exact bad (fun q => g (by rw [hF11, ← hn]; exact q.2.2))
    · refine br_t xc_eq0 ?_
      refine ⟨s, t, u, A, F, 1, rfl, rfl, by decide, by decide, ?_⟩
      exact bad (fun q => g q.2.1)
  · refine br_t xc_eq0 ?_
    refine ⟨s, t, u, A, F, 1, rfl, rfl, by decide, by decide, ?_⟩
    exact bad (fun q => isS_n hk hk8 g q.1)
