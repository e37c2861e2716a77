/-! ===== the class's calls: notes, singer, ofSinger, begin ===== -/
theorem CRgen {D D' : Nat → Int32} {A A' : XA} {F F' : Nat → Int32} (h : CR D A F) (hD : ∀ v j, D' (72 + v) = D (72 + v) ∧ D' (96 + 50 * v + j) = D (96 + 50 * v + j)) (f11 : F' 11 = D' 1) (f12 : F' 12 = D' 2) (f13 : F' 13 = D' 0) (f14 : F' 14 = D' 3) (f15 : F' 15 = D' 4) (f16 : F' 16 = D' 5) (f20 : F' 20 = F 20) (f21 : F' 21 = F 21) (a11 : A' 11 = A 11) (a15 : A' 15 = A 15) (hs : ∀ i, i < (D' 2).toNatClampNeg → A' 1 i = D' (8 + 8 * i + 0) ∧ A' 2 i = D' (8 + 8 * i + 1) ∧ A' 3 i = D' (8 + 8 * i + 2) ∧ A' 5 i = D' (8 + 8 * i + 3) ∧ A' 6 i = D' (8 + 8 * i + 4) ∧ A' 4 i = D' (8 + 8 * i + 5) ∧ A' 7 i = D' (8 + 8 * i + 6)) (ht : ∀ j, j < (D' 4).toNatClampNeg → A' 8 j &&& 255 = D' (196 + j)) (hw : ∀ j, j < (D' 5).toNatClampNeg → A' 9 j = D' (76 + j)) : CR D' A' F' := by
  have ut : ∀ v, tps D' v = tps D v := fun v => by
    unfold tps
    have e : (fun j => D' (96 + 50 * v + j)) = fun j => D (96 + 50 * v + j) := funext fun j => (hD v j).2
    rw [e, (hD v 0).1]
  obtain ⟨g1, g2, g3, g4, g5, g6, g7, g8, g9, g10, g11⟩ := h
  exact ⟨f11, f12, f13, f14, f15, f16, hs, ht, hw, by rw [a11, f20, ut]; exact g10, by rw [a15, f21, ut]; exact g11⟩
def sX9_notes : XS := fun as w post => ∃ (s t u : Bool) (A : XA) (F : Nat → Int32) (mA : XA) (mF : Nat → Int32) (c n k : Nat) (v : Int32), as = [.ref 0, .int v] ∧ w = CW s t u A F ∧ CI mA mF n k ∧ Rel mA mF A F ∧ Aux (mA 1) A F c ∧ c < 2 ^ 28 ∧ cQ (qnotes v mA mF) c post
set_option maxRecDepth 10000 in
set_option maxHeartbeats 1000000 in
theorem mX9_notes (d : Nat) (hd : 3 ≤ d) : xCT d yX9_notes cX9_notes 3 (some .int) sX9_notes := by
  obtain ⟨d, rfl⟩ : ∃ e, d = e + 1 := ⟨d - 1, by omega⟩
  refine xmet (tb := tX9_notes) (fl := fX9) (kc := nX9) (gs := g0) (cl := xlk [(82, false, 3, sX9_within), (86, true, 2, xrcv 9 (sX9_fail)), (102, true, 1, xrcv 7 (sX7_forgetAll_W))]) (by decide) tX9_notes_ok fX9_ok nX9_ok g0_ok (xg_cons (k_X9_82 (mX9_within d (by omega))) (xg_cons (k_X9_86 (mX9_fail d (by omega))) (xg_cons (k_X9_102 (mX7_forgetAll_W d (by omega))) xg_nil))) ?_
  rintro L xs as w Qp ⟨s, t, u, A, F, mA, mF, c, n, k, v, rfl, rfl, hC, hR, hX, hc, h⟩
  obtain ⟨hn, hn2, hn12, hk, hk8, hF11, hF12, hA, hKV, h54, h58⟩ := ctx hC hR hX
  refine ⟨Nat.le_of_ble_eq_true rfl, 400, xlk [(18, 3)], fun m pc ls st w => pc = 18 ∧ st = [] ∧ w = CW s t u A F ∧ (2 ≤ v ∧ v ≤ 12) ∧ ∃ i, i ≤ k ∧ m = k - i ∧ ls = [(0, .ref 0), (1, .int v), (2, .int (nI i))] ∧ ∀ j, j < i → ¬ (v ≤ A 4 j ∨ v ≤ A 5 j), ?_, ?_⟩
  · refine ⟨v, 2, 12, rfl, fun g1 g2 => ?_, fun g => ?_⟩
    · refine br_t xc_ne1 ?_
      exact ⟨k, rfl, rfl, rfl, ⟨g1, g2⟩, 0, Nat.zero_le _, rfl, rfl, fun j hj => absurd hj (Nat.not_lt_zero _)⟩
    · refine br_f xc_ne0 ?_
      refine ⟨s, t, u, A, F, 1, rfl, rfl, by decide, by decide, ?_⟩
      exact cQ_e h (cif_f' g rfl) hR hX
  · rintro m pc m9 ls st w hc9 ⟨rfl, rfl, rfl, gv, i, hi, rfl, rfl, hb⟩
    refine And.intro (fun g => ?_) (fun g => ?_)
    · have := ge_n hF12 (by omega) (by omega) g
      have ei : i = k := by omega
      subst ei
      obtain ⟨n', hn', en'⟩ := rg (c := 12) (by omega) (show (0 : Int32) ≤ v from by
        have := gv.1
        rw [fa_le] at this ⊢
        exact Int.le_trans (by decide) this) gv.2
      have hn'2 : 2 ≤ n' := by
        have := gv.1
        rw [en', show (2 : Int32) = nI 2 from rfl, fa_le, nI_toInt (by omega), nI_toInt (by omega)] at this
        omega
      refine ⟨s, t, u, A, fset F 11 v, rfl, rfl, fun A2 hS2 hK2 => ?_⟩
      have hq : qnotes v mA mF = (F 11, aset mA 1 (upd (mA 1) 1 v), mF) := by
        refine cif_t' gv (cif_f' ?_ (by rw [hF11, hn]))
        rintro ⟨j, hj, q⟩
        rw [hk, cl (by omega)] at hj
        rw [← (hA j hj).2.2.1, ← (hA j hj).2.2.2.2.2.1] at q
        exact hb j hj q
      refine cQ_ch (upd (mA 1) 1 v) (c' := c) h hq hR (sm_w hS2 rfl) (fsm_fset rfl) (CRgen hR.1 (fun w j => ⟨pk_un (by omega), pk_un (by omega)⟩) pk_us.symm (hR.1.2.1.trans (pk_un (by omega)).symm) (hR.1.2.2.1.trans (pk_un (by omega)).symm) (hR.1.2.2.2.1.trans (pk_un (by omega)).symm) (hR.1.2.2.2.2.1.trans (pk_un (by omega)).symm) (hR.1.2.2.2.2.2.1.trans (pk_un (by omega)).symm) rfl rfl (hS2 12 rfl) (hS2 16 rfl) (fun j hj => ?_) (fun j hj => ?_) (fun j hj => ?_)) (by rw [hS2 9 rfl]; exact hR.2.2.2.2.2.2.2.1) (Aux_i (n := n') (pk_us.trans en') ((pk_un (by omega)).trans hk) hn' hk8 (KV_all hK2 hn' hk8) h54 (fun q hq => by rw [hS2 58 rfl]; exact h58 q hq))
      · rw [pk_un (by omega)] at hj
        have q := hR.1.2.2.2.2.2.2.1 j hj
        rw [pk_un (by omega), pk_un (by omega), pk_un (by omega), pk_un (by omega), pk_un (by omega), pk_un (by omega), pk_un (by omega)]
        exact ⟨(congrFun (hS2 2 rfl) j).trans q.1, (congrFun (hS2 3 rfl) j).trans q.2.1, (congrFun (hS2 4 rfl) j).trans q.2.2.1, (congrFun (hS2 6 rfl) j).trans q.2.2.2.1, (congrFun (hS2 7 rfl) j).trans q.2.2.2.2.1, (congrFun (hS2 5 rfl) j).trans q.2.2.2.2.2.1, (congrFun (hS2 8 rfl) j).trans q.2.2.2.2.2.2⟩
      · rw [pk_un (by omega)] at hj
        rw [pk_un (by omega)]
        show A2 9 j &&& 255 = _
        rw [hS2 9 rfl]
        exact hR.1.2.2.2.2.2.2.2.1 j hj
      · rw [pk_un (by omega)] at hj
        rw [pk_un (by omega)]
        exact (congrFun (hS2 10 rfl) j).trans (hR.1.2.2.2.2.2.2.2.2.1 j hj)
    · have hlt := nge_n hF12 (by omega) (by omega) g
      have ei : (nI i).toNatClampNeg = i := cl (by omega)
      have i0 : vp_in (nI i) 8 := vp_in_nI (by omega) (by decide)
      have bad : (v ≤ A 4 i ∨ v ≤ A 5 i) → Qp (some (.int (lo 3))) (CW s t u (aset A 82 (upd (A 82) 3 (A 82 3 + 1))) F) := fun q => by
        refine cQ_e h (cif_t' gv (cif_t' ⟨i, ?_, ?_⟩ rfl)) hR hX
        · rw [hk, cl (by omega)]
          exact hlt
        · rw [← (hA i hlt).2.2.1, ← (hA i hlt).2.2.2.2.2.1]
          exact q
      refine And.intro i0 ?_
      refine And.intro (fun g2 => ?_) (fun g2 => ?_)
      · have g2 : v ≤ A 4 (nI i).toNatClampNeg := g2
        rw [ei] at g2
        refine ⟨s, t, u, A, F, 3, rfl, rfl, by decide, by decide, ?_⟩
        exact bad (Or.inl g2)
      · have g2 : ¬ v ≤ A 4 (nI i).toNatClampNeg := g2
        rw [ei] at g2
        refine And.intro i0 ?_
        refine And.intro (fun g3 => ?_) (fun g3 => ?_)
        · have g3 : A 5 (nI i).toNatClampNeg < v := g3
          rw [ei] at g3
          refine ⟨k - (i + 1), by omega, rfl, rfl, rfl, gv, i + 1, hlt, rfl, by rw [← nI_1 i]; rfl, fun j hj => ?_⟩
          by_cases q : j = i
          · subst q
            exact fun q => q.elim g2 (fun q => (fa_of_lt g3).2.1 q)
          · exact hb j (by omega)
        · have g3 : ¬ A 5 (nI i).toNatClampNeg < v := g3
          rw [ei] at g3
          refine ⟨s, t, u, A, F, 3, rfl, rfl, by decide, by decide, ?_⟩
          exact bad (Or.inr (fa_of_nlt g3))
def sX9_singer : XS := fun as w post => ∃ (s t u : Bool) (A : XA) (F : Nat → Int32) (mA : XA) (mF : Nat → Int32) (c n k : Nat) (x y : Int32), as = [.ref 0, .int x, .int y] ∧ w = CW s t u A F ∧ CI mA mF n k ∧ Rel mA mF A F ∧ Aux (mA 1) A F c ∧ c < 2 ^ 28 ∧ cQ (qsinger x y mA mF) c post
set_option maxRecDepth 10000 in
set_option maxHeartbeats 1000000 in
theorem mX9_singer (d : Nat) (hd : 2 ≤ d) : xCT d yX9_singer cX9_singer 4 (some .int) sX9_singer := by
  obtain ⟨d, rfl⟩ : ∃ e, d = e + 1 := ⟨d - 1, by omega⟩
  refine xmet0 (tb := tX9_singer) (fl := fX9) (kc := nX9) (gs := g0) (cl := xlk [(105, false, 2, sX9_isRule), (86, true, 2, xrcv 9 (sX9_fail)), (109, true, 3, xrcv 1 (sX1_join_W)), (113, true, 2, xrcv 7 (sX7_forget_W))]) 400 (by decide) tX9_singer_ok fX9_ok nX9_ok g0_ok (xg_cons (k_X9_105 (mX9_isRule d (by omega))) (xg_cons (k_X9_86 (mX9_fail d (by omega))) (xg_cons (k_X9_109 (mX1_join_W d (by omega))) (xg_cons (k_X9_113 (mX7_forget_W d (by omega))) xg_nil)))) ?_
  rintro L xs as w Qp ⟨s, t, u, A, F, mA, mF, c, n, k, x, y, rfl, rfl, hC, hR, hX, hc, h⟩
  obtain ⟨hn, hn2, hn12, hk, hk8, hF11, hF12, hA, hKV, h54, h58⟩ := ctx hC hR hX
  refine ⟨Nat.le_of_ble_eq_true rfl, ?_⟩
  refine ⟨x, y, rfl, fun g => ?_, fun g => ?_⟩
  · refine br_t xc_ne1 ?_
    refine And.intro (fun g2 => ?_) (fun g2 => ?_)
    · have g2 : F 12 < nI 8 := g2
      have hk7 : k < 8 := by
        rw [hF12, fa_lt, nI_toInt (by omega), nI_toInt (by omega)] at g2
        omega
      refine ⟨s, t, u, A, F, k, x, y, rfl, rfl, hF12, hk7, fun A1 hS1 e2 e3 e4 e5 e8 e6 e7 => ?_⟩
      refine ⟨s, t, u, A1, fset F 12 (nI (k + 1)), k, rfl, rfl, hk7, fun A2 hS2 hK2 hK3 => ?_⟩
      have hS : sm [2, 3, 4, 5, 6, 7, 8, 39, 40, 41, 42, 43, 44, 45, 46] A2 A := sm_tr (sm_w hS1 rfl) (sm_w hS2 rfl)
      have jD : ∀ j, j ≠ 8 + 8 * k + 0 → j ≠ 8 + 8 * k + 1 → j ≠ 8 + 8 * k + 2 → j ≠ 8 + 8 * k + 5 → j ≠ 8 + 8 * k + 6 → j ≠ 2 → joinD (mA 1) k x y j = mA 1 j := fun j a b d e f g => (pk_un g).trans ((pk_un f).trans ((pk_un e).trans ((pk_un d).trans ((pk_un b).trans (pk_un a)))))
      have hj0 : joinD (mA 1) k x y (8 + 8 * k + 0) = x := (pk_un (by omega)).trans ((pk_un (by omega)).trans ((pk_un (by omega)).trans ((pk_un (by omega)).trans ((pk_un (by omega)).trans pk_us))))
      have hj1 : joinD (mA 1) k x y (8 + 8 * k + 1) = y := (pk_un (by omega)).trans ((pk_un (by omega)).trans ((pk_un (by omega)).trans ((pk_un (by omega)).trans pk_us)))
      have hj2 : joinD (mA 1) k x y (8 + 8 * k + 2) = 0 := (pk_un (by omega)).trans ((pk_un (by omega)).trans ((pk_un (by omega)).trans pk_us))
      have hj5 : joinD (mA 1) k x y (8 + 8 * k + 5) = -1 := (pk_un (by omega)).trans ((pk_un (by omega)).trans pk_us)
      have hj6 : joinD (mA 1) k x y (8 + 8 * k + 6) = 0 := (pk_un (by omega)).trans pk_us
      have hj22 : joinD (mA 1) k x y 2 = nI (k + 1) := pk_us
      have hU : ∀ j, (∀ i, i < k + 1 → j ≠ 8 + 8 * i + 3 ∧ j ≠ 8 + 8 * i + 4) → hearU (joinD (mA 1) k x y) (k + 1) (k + 1) j = joinD (mA 1) k x y j := fun j a => hearU_at a
      have d6 : ∀ j, j < k + 1 → A1 8 j = joinD (mA 1) k x y (8 + 8 * j + 6) := fun j hj => by
        rw [e8]
        by_cases q : j = k
        · subst q
          rw [pk_us, hj6]
        · rw [pk_un q, jD _ (by omega) (by omega) (by omega) (by omega) (by omega) (by omega)]
          exact (hA j (by omega)).2.2.2.2.2.2
      have hq : qsinger x y mA mF = (F 12, aset mA 1 (hearU (joinD (mA 1) k x y) (k + 1) (k + 1)), mF) := by
        refine cif_t' g (cif_f' (fun q => ?_) ?_)
        · rw [hk] at q
          have := nI_inj (b := 8) (by omega) (by omega) q
          omega
        · rw [hk, cl (by omega), hF12]
      have h9 := cQ_ch (s := s) (t := t) (u := u) (A' := A2) (F' := fset F 12 (nI (k + 1))) (c' := c) (hearU (joinD (mA 1) k x y) (k + 1) (k + 1)) h hq hR (sm_w hS rfl) (fsm_fset rfl) (CRgen hR.1 (fun w j => ⟨(hU _ (fun i hi => by omega)).trans (jD _ (by omega) (by omega) (by omega) (by omega) (by omega) (by omega)), (hU _ (fun i hi => by omega)).trans (jD _ (by omega) (by omega) (by omega) (by omega) (by omega) (by omega))⟩) (hR.1.1.trans ((hU _ (fun i hi => by omega)).trans (jD _ (by omega) (by omega) (by omega) (by omega) (by omega) (by omega))).symm) ((hU _ (fun i hi => by omega)).trans hj22).symm (hR.1.2.2.1.trans ((hU _ (fun i hi => by omega)).trans (jD _ (by omega) (by omega) (by omega) (by omega) (by omega) (by omega))).symm) (hR.1.2.2.2.1.trans ((hU _ (fun i hi => by omega)).trans (jD _ (by omega) (by omega) (by omega) (by omega) (by omega) (by omega))).symm) (hR.1.2.2.2.2.1.trans ((hU _ (fun i hi => by omega)).trans (jD _ (by omega) (by omega) (by omega) (by omega) (by omega) (by omega))).symm) (hR.1.2.2.2.2.2.1.trans ((hU _ (fun i hi => by omega)).trans (jD _ (by omega) (by omega) (by omega) (by omega) (by omega) (by omega))).symm) rfl rfl (hS 12 rfl) (hS 16 rfl) (fun j hj => ?_) (fun j hj => ?_) (fun j hj => ?_)) (by rw [hS 9 rfl]; exact hR.2.2.2.2.2.2.2.1) (Aux_i (n := n) (k := k + 1) ((hU _ (fun i hi => by omega)).trans ((jD _ (by omega) (by omega) (by omega) (by omega) (by omega) (by omega)).trans hn)) ((hU _ (fun i hi => by omega)).trans hj22) hn12 hk7 ?_ h54 (fun q hq => by rw [hS 58 rfl]; exact h58 q hq))
      · rw [hF12] at h9
        exact h9
      · have hjk : j < k + 1 := by
          rw [(hU 2 (fun i hi => by omega)).trans hj22, cl (by omega)] at hj
          exact hj
        rw [hU (8 + 8 * j + 0) (fun i hi => by omega), hU (8 + 8 * j + 1) (fun i hi => by omega), hU (8 + 8 * j + 2) (fun i hi => by omega), hU (8 + 8 * j + 5) (fun i hi => by omega), hearU_told, hearU_3 hjk, hearU_4 hjk]
        have s2 : A2 2 j = joinD (mA 1) k x y (8 + 8 * j + 0) ∧ A2 3 j = joinD (mA 1) k x y (8 + 8 * j + 1) ∧ A2 4 j = joinD (mA 1) k x y (8 + 8 * j + 2) ∧ A2 5 j = joinD (mA 1) k x y (8 + 8 * j + 5) := by
          rw [hS2 2 rfl, hS2 3 rfl, hS2 4 rfl, hS2 5 rfl, e2, e3, e4, e5]
          by_cases q : j = k
          · subst q
            rw [pk_us, pk_us, pk_us, pk_us]
            exact ⟨hj0.symm, hj1.symm, hj2.symm, hj5.symm⟩
          · obtain ⟨a0, a1, a2, a3, a4, a5, a6⟩ := hA j (by omega)
            rw [pk_un q, pk_un q, pk_un q, pk_un q]
            exact ⟨a0.trans (jD _ (by omega) (by omega) (by omega) (by omega) (by omega) (by omega)).symm, a1.trans (jD _ (by omega) (by omega) (by omega) (by omega) (by omega) (by omega)).symm, a2.trans (jD _ (by omega) (by omega) (by omega) (by omega) (by omega) (by omega)).symm, a5.trans (jD _ (by omega) (by omega) (by omega) (by omega) (by omega) (by omega)).symm⟩
        have s6 : A2 6 j = cif (joinD (mA 1) k x y (8 + 8 * j + 6) = 0) (nI ((j + (k + 1) - 1) % (k + 1))) (joinD (mA 1) k x y (8 + 8 * j + 3)) := by
          rw [hS2 6 rfl, e6 j hjk, d6 j hjk]
          by_cases q : j = k
          · subst q
            rw [hj6, cif_t rfl, cif_t rfl]
          · rw [jD (8 + 8 * j + 3) (by omega) (by omega) (by omega) (by omega) (by omega) (by omega), (hA j (by omega)).2.2.2.1]
        have s7 : A2 7 j = cif (joinD (mA 1) k x y (8 + 8 * j + 6) = 0) (nI ((j + 2 * (k + 1) - 2) % (k + 1))) (joinD (mA 1) k x y (8 + 8 * j + 4)) := by
          rw [hS2 7 rfl, e7 j hjk, d6 j hjk]
          by_cases q : j = k
          · subst q
            rw [hj6, cif_t rfl, cif_t rfl]
          · rw [jD (8 + 8 * j + 4) (by omega) (by omega) (by omega) (by omega) (by omega) (by omega), (hA j (by omega)).2.2.2.2.1]
        exact ⟨s2.1, s2.2.1, s2.2.2.1, s6, s7, s2.2.2.2, (congrFun (hS2 8 rfl) j).trans (d6 j hjk)⟩
      · rw [(hU 4 (fun i hi => by omega)).trans (jD 4 (by omega) (by omega) (by omega) (by omega) (by omega) (by omega))] at hj
        rw [(hU _ (fun i hi => by omega)).trans (jD _ (by omega) (by omega) (by omega) (by omega) (by omega) (by omega))]
        show A2 9 j &&& 255 = _
        rw [hS 9 rfl]
        exact hR.1.2.2.2.2.2.2.2.1 j hj
      · rw [(hU 5 (fun i hi => by omega)).trans (jD 5 (by omega) (by omega) (by omega) (by omega) (by omega) (by omega))] at hj
        rw [(hU _ (fun i hi => by omega)).trans (jD _ (by omega) (by omega) (by omega) (by omega) (by omega) (by omega))]
        exact (congrFun (hS 10 rfl) j).trans (hR.1.2.2.2.2.2.2.2.2.1 j hj)
      · intro i2 l t2 hi2 hl ht
        by_cases q : i2 = k
        · exact Or.inl (by rw [q]; exact hK3 _ (by omega))
        · have e : A2 (39 + i2) = A (39 + i2) := (hK2 i2 (by omega) q).trans (hS1 (39 + i2) (row8 (by omega) (by decide)))
          show A2 (39 + i2) (12 * l + t2) = -1 ∨ A2 (39 + i2) (12 * l + t2) = _
          rw [e, nxt_dcg (d := mA 1) (fun j hj => (hU _ (fun i hi => by omega)).trans (jD _ (by omega) (by omega) (by omega) (by omega) (by omega) (by omega))) ((hU _ (fun i hi => by omega)).trans (jD _ (by omega) (by omega) (by omega) (by omega) (by omega) (by omega))) ((hU _ (fun i hi => by omega)).trans (jD _ (by omega) (by omega) (by omega) (by omega) (by omega) (by omega))) ((hU _ (fun i hi => by omega)).trans (jD _ (by omega) (by omega) (by omega) (by omega) (by omega) (by omega)))]
          exact hKV i2 l t2 (by omega) hl ht
    · have g2 : ¬ F 12 < nI 8 := g2
      have ek : k = 8 := by
        rw [hF12, fa_lt, nI_toInt (by omega), nI_toInt (by omega)] at g2
        omega
      refine ⟨s, t, u, A, F, 4, rfl, rfl, by decide, by decide, ?_⟩
      exact cQ_e h (cif_t' g (cif_t' (by rw [hk, ek]; rfl) rfl)) hR hX
  · refine br_f xc_ne0 ?_
    refine ⟨s, t, u, A, F, 1, rfl, rfl, by decide, by decide, ?_⟩
    exact cQ_e h (cif_f' g rfl) hR hX
