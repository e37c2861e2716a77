/-! ===== the class's calls: rules, nets, notes ===== -/
theorem cwset2 {s t u : Bool} {A : XA} {F f f' : Nat → Int32} (h : f = f') : List.set (CW s t u A F) 2 (.inl (0, 8, .inl f)) = CW s t u (aset A 2 f') F := by
  subst h
  rfl
theorem cwset3 {s t u : Bool} {A : XA} {F f f' : Nat → Int32} (h : f = f') : List.set (CW s t u A F) 3 (.inl (0, 8, .inl f)) = CW s t u (aset A 3 f') F := by
  subst h
  rfl
theorem cwset4 {s t u : Bool} {A : XA} {F f f' : Nat → Int32} (h : f = f') : List.set (CW s t u A F) 4 (.inl (0, 8, .inl f)) = CW s t u (aset A 4 f') F := by
  subst h
  rfl
theorem cwset5 {s t u : Bool} {A : XA} {F f f' : Nat → Int32} (h : f = f') : List.set (CW s t u A F) 5 (.inl (0, 8, .inl f)) = CW s t u (aset A 5 f') F := by
  subst h
  rfl
theorem cwset6 {s t u : Bool} {A : XA} {F f f' : Nat → Int32} (h : f = f') : List.set (CW s t u A F) 6 (.inl (0, 8, .inl f)) = CW s t u (aset A 6 f') F := by
  subst h
  rfl
theorem cwset7 {s t u : Bool} {A : XA} {F f f' : Nat → Int32} (h : f = f') : List.set (CW s t u A F) 7 (.inl (0, 8, .inl f)) = CW s t u (aset A 7 f') F := by
  subst h
  rfl
theorem cwset8 {s t u : Bool} {A : XA} {F f f' : Nat → Int32} (h : f = f') : List.set (CW s t u A F) 8 (.inl (0, 8, .inl f)) = CW s t u (aset A 8 f') F := by
  subst h
  rfl
theorem cwset23 {s t u : Bool} {A : XA} {F f f' g g' : Nat → Int32} (h : f = f') (h2 : g = g') : List.set (List.set (CW s t u A F) 2 (.inl (0, 8, .inl f))) 3 (.inl (0, 8, .inl g)) = CW s t u (aset (aset A 2 f') 3 g') F := by
  subst h h2
  rfl
theorem cwset867 {s t u : Bool} {A : XA} {F f f' g g' k k' : Nat → Int32} (h : f = f') (h2 : g = g') (h3 : k = k') : List.set (List.set (List.set (CW s t u A F) 8 (.inl (0, 8, .inl f))) 6 (.inl (0, 8, .inl g))) 7 (.inl (0, 8, .inl k)) = CW s t u (aset (aset (aset A 8 f') 6 g') 7 k') F := by
  subst h h2 h3
  rfl
def sX9_rule : XS := fun as w post => ∃ (s t u : Bool) (A : XA) (F : Nat → Int32) (mA : XA) (mF : Nat → Int32) (c n k : Nat) (x y z : Int32), as = [.ref 0, .int x, .int y, .int z] ∧ w = CW s t u A F ∧ CI mA mF n k ∧ Rel mA mF A F ∧ Aux (mA 1) A F c ∧ c < 2 ^ 28 ∧ cQ (qrule x y z mA mF) c post
set_option maxRecDepth 10000 in
set_option maxHeartbeats 1000000 in
theorem mX9_rule (d : Nat) (hd : 2 ≤ d) : xCT d yX9_rule cX9_rule 5 (some .int) sX9_rule := by
  obtain ⟨d, rfl⟩ : ∃ e, d = e + 1 := ⟨d - 1, by omega⟩
  refine xmet0 (tb := tX9_rule) (fl := fX9) (kc := nX9) (gs := g0) (cl := xlk [(117, true, 2, xrcv 1 (sX1_has_W)), (105, false, 2, sX9_isRule), (86, true, 2, xrcv 9 (sX9_fail)), (113, true, 2, xrcv 7 (sX7_forget_W))]) 400 (by decide) tX9_rule_ok fX9_ok nX9_ok g0_ok (xg_cons (k_X9_117 (mX1_has_W d (by omega))) (xg_cons (k_X9_105 (mX9_isRule d (by omega))) (xg_cons (k_X9_86 (mX9_fail d (by omega))) (xg_cons (k_X9_113 (mX7_forget_W d (by omega))) xg_nil)))) ?_
  rintro L xs as w Qp ⟨s, t, u, A, F, mA, mF, c, n, k, x, y, z, rfl, rfl, hC, hR, hX, hc, h⟩
  obtain ⟨hn, hn2, hn12, hk, hk8, hF11, hF12, hA, hKV, h54, h58⟩ := ctx hC hR hX
  refine ⟨Nat.le_of_ble_eq_true rfl, ?_⟩
  refine ⟨s, t, u, A, F, x, k, rfl, rfl, hF12, hk8, fun i hi es => ?_, fun g => ?_⟩
  · subst es
    refine br_f xc_eq1 ?_
    have ei : (nI i).toNatClampNeg = i := cl (by omega)
    have i0 : vp_in (nI i) 8 := vp_in_nI (by omega) (by decide)
    refine ⟨y, z, rfl, fun g => ?_, fun g => ?_⟩
    · refine br_t xc_ne1 ?_
      refine And.intro i0 (And.intro i0 (And.intro i0 (And.intro i0 ?_)))
      have u2 : upd (A 2) (nI i).toNatClampNeg y = upd (A 2) i y := by rw [ei]
      have u3 : upd (A 3) (nI i).toNatClampNeg z = upd (A 3) i z := by rw [ei]
      refine ⟨s, t, u, aset (aset A 2 (upd (A 2) i y)) 3 (upd (A 3) i z), F, i, rfl, cwset23 u2 u3, by omega, fun A2 hS2 hK2 hK3 => ?_⟩
      have hS : sm (2 :: 3 :: [39, 40, 41, 42, 43, 44, 45, 46]) A2 A := sm_tr (sm_tr (sm_aset (q := 2) rfl) (sm_aset (q := 3) rfl)) (sm_w hS2 rfl)
      refine cQ_ch (upd (upd (mA 1) (8 + 8 * i + 0) y) (8 + 8 * i + 1) z) (c' := c) h ?_ hR (sm_w hS rfl) fsm_rf (CRk hR.1 (by omega) (hS2 2 rfl) (hS2 3 rfl) (sm_adn hS (by decide) rfl)) (by rw [hS 9 rfl]; exact hR.2.2.2.2.2.2.2.1) (Aux_i ((pk_un (by omega)).trans ((pk_un (by omega)).trans hn)) ((pk_un (by omega)).trans ((pk_un (by omega)).trans hk)) hn12 hk8 ?_ h54 (fun q hq => by rw [hS 58 rfl]; exact h58 q hq))
      · refine cif_t' ⟨isS_i hk hk8 hi, g⟩ ?_
        rw [ei, (hA i hi).1, (hA i hi).2.1]
        rfl
      · intro i2 l t2 hi2 hl ht
        by_cases q : i2 = i
        · exact Or.inl (by rw [q]; exact hK3 _ (by omega))
        · have e : A2 (39 + i2) = A (39 + i2) := (hK2 i2 (by omega) q).trans ((asN (by omega)).trans (asN (by omega)))
          show A2 (39 + i2) (12 * l + t2) = -1 ∨ A2 (39 + i2) (12 * l + t2) = _
          rw [e, nxt_dcg (d := mA 1) (fun j hj => (pk_un (by omega)).trans (pk_un (by omega))) ((pk_un (by omega)).trans (pk_un (by omega))) ((pk_un (by omega)).trans (pk_un (by omega))) ((pk_un (by omega)).trans (pk_un (by omega)))]
          exact hKV i2 l t2 hi2 hl ht
    · refine br_f xc_ne0 ?_
      refine ⟨s, t, u, A, F, 1, rfl, rfl, by decide, by decide, ?_⟩
      exact cQ_e h (cif_f' (fun q => g q.2) rfl) hR hX
  · refine br_t xc_eq0 ?_
    refine ⟨s, t, u, A, F, 1, rfl, rfl, by decide, by decide, ?_⟩
    exact cQ_e h (cif_f' (fun q => isS_n hk hk8 g q.1) rfl) hR hX
def sX9_net : XS := fun as w post => ∃ (s t u : Bool) (A : XA) (F : Nat → Int32) (mA : XA) (mF : Nat → Int32) (c n k : Nat) (x y z : Int32), as = [.ref 0, .int x, .int y, .int z] ∧ w = CW s t u A F ∧ CI mA mF n k ∧ Rel mA mF A F ∧ Aux (mA 1) A F c ∧ c < 2 ^ 28 ∧ cQ (qnet x y z mA mF) c post
set_option maxRecDepth 10000 in
set_option maxHeartbeats 1000000 in
theorem mX9_net (d : Nat) (hd : 1 ≤ d) : xCT d yX9_net cX9_net 4 (some .int) sX9_net := by
  obtain ⟨d, rfl⟩ : ∃ e, d = e + 1 := ⟨d - 1, by omega⟩
  refine xmet0 (tb := tX9_net) (fl := fX9) (kc := nX9) (gs := g0) (cl := xlk [(117, true, 2, xrcv 1 (sX1_has_W)), (86, true, 2, xrcv 9 (sX9_fail))]) 400 (by decide) tX9_net_ok fX9_ok nX9_ok g0_ok (xg_cons (k_X9_117 (mX1_has_W d (by omega))) (xg_cons (k_X9_86 (mX9_fail d (by omega))) xg_nil)) ?_
  rintro L xs as w Qp ⟨s, t, u, A, F, mA, mF, c, n, k, x, y, z, rfl, rfl, hC, hR, hX, hc, h⟩
  obtain ⟨hn, hn2, hn12, hk, hk8, hF11, hF12, hA, hKV, h54, h58⟩ := ctx hC hR hX
  refine ⟨Nat.le_of_ble_eq_true rfl, ?_⟩
  have bad : ¬ (isS (mA 1) x ∧ isS (mA 1) y ∧ isS (mA 1) z) → Qp (some (.int (lo 1))) (CW s t u (aset A 82 (upd (A 82) 1 (A 82 1 + 1))) F) := fun q => cQ_e h (cif_f' q rfl) hR hX
  refine ⟨s, t, u, A, F, x, k, rfl, rfl, hF12, hk8, fun i hi es => ?_, fun g => ?_⟩
  · subst es
    refine br_f xc_eq1 ?_
    refine ⟨s, t, u, A, F, y, k, rfl, rfl, hF12, hk8, fun f hf ef => ?_, fun g => ?_⟩
    · subst ef
      refine br_f xc_eq1 ?_
      refine ⟨s, t, u, A, F, z, k, rfl, rfl, hF12, hk8, fun e he ee => ?_, fun g => ?_⟩
      · subst ee
        refine br_t xc_ne1 ?_
        have ei : (nI i).toNatClampNeg = i := cl (by omega)
        have i0 : vp_in (nI i) 8 := vp_in_nI (by omega) (by decide)
        refine And.intro i0 (And.intro i0 (And.intro i0 ?_))
        have u8 : upd (A 8) (nI i).toNatClampNeg 1 = upd (A 8) i 1 := by rw [ei]
        have u6 : upd (A 6) (nI i).toNatClampNeg (nI f) = upd (A 6) i (nI f) := by rw [ei]
        have u7 : upd (A 7) (nI i).toNatClampNeg (nI e) = upd (A 7) i (nI e) := by rw [ei]
        have hS : sm [8, 6, 7] (aset (aset (aset A 8 (upd (A 8) i 1)) 6 (upd (A 6) i (nI f))) 7 (upd (A 7) i (nI e))) A := sm_tr (sm_aset (q := 8) rfl) (sm_tr (sm_aset (q := 6) rfl) (sm_aset (q := 7) rfl))
        have uD : ∀ j, j ≠ 8 + 8 * i + 3 → j ≠ 8 + 8 * i + 4 → j ≠ 8 + 8 * i + 6 → upd (upd (upd (mA 1) (8 + 8 * i + 3) (nI f)) (8 + 8 * i + 4) (nI e)) (8 + 8 * i + 6) 1 j = mA 1 j := fun j a b d => (pk_un d).trans ((pk_un b).trans (pk_un a))
        have h9 := cQ_ch (s := s) (t := t) (u := u) (v := 1) (c' := c) (upd (upd (upd (mA 1) (8 + 8 * i + 3) (nI f)) (8 + 8 * i + 4) (nI e)) (8 + 8 * i + 6) 1) h (cif_t' ⟨isS_i hk hk8 hi, isS_i hk hk8 hf, isS_i hk hk8 he⟩ (by rw [ei])) hR (sm_w hS rfl) fsm_rf (CRsg hR.1 (fun j hj => uD j (by omega) (by omega) (by omega)) (uD _ (by omega) (by omega) (by omega)) (uD _ (by omega) (by omega) (by omega)) (uD _ (by omega) (by omega) (by omega)) (uD _ (by omega) (by omega) (by omega)) (hR.1.2.2.1.trans (uD _ (by omega) (by omega) (by omega)).symm) (hR.1.2.2.2.1.trans (uD _ (by omega) (by omega) (by omega)).symm) rfl rfl rfl rfl rfl rfl rfl rfl rfl rfl (fun j hj => ?_)) hR.2.2.2.2.2.2.2.1 (Aux_i ((uD _ (by omega) (by omega) (by omega)).trans hn) ((uD _ (by omega) (by omega) (by omega)).trans hk) hn12 hk8 (KV_dcg (KV_cg hKV (fun t ht => (asN (by omega)).trans ((asN (by omega)).trans (asN (by omega))))) (fun j hj => uD j (by omega) (by omega) (by omega)) (uD _ (by omega) (by omega) (by omega)) (fun j hj => ⟨uD _ (by omega) (by omega) (by omega), uD _ (by omega) (by omega) (by omega)⟩)) h54 h58)
        · rw [← cwset867 u8 u6 u7] at h9
          exact h9
        · obtain ⟨a0, a1, a2, a3, a4, a5, a6⟩ := hR.1.2.2.2.2.2.2.1 j hj
          rw [uD (8 + 8 * j + 0) (by omega) (by omega) (by omega), uD (8 + 8 * j + 1) (by omega) (by omega) (by omega), uD (8 + 8 * j + 2) (by omega) (by omega) (by omega), uD (8 + 8 * j + 5) (by omega) (by omega) (by omega)]
          refine ⟨a0, a1, a2, ?_, ?_, a5, ?_⟩
          · show upd (A 6) i (nI f) j = _
            by_cases q : j = i
            · subst q
              rw [pk_us, pk_un (by omega), pk_un (by omega), pk_us]
            · rw [pk_un q, uD _ (by omega) (by omega) (by omega)]
              exact a3
          · show upd (A 7) i (nI e) j = _
            by_cases q : j = i
            · subst q
              rw [pk_us, pk_un (by omega), pk_us]
            · rw [pk_un q, uD _ (by omega) (by omega) (by omega)]
              exact a4
          · show upd (A 8) i 1 j = _
            by_cases q : j = i
            · subst q
              rw [pk_us, pk_us]
            · rw [pk_un q, uD _ (by omega) (by omega) (by omega)]
              exact a6
      · refine br_f xc_ne0 ?_
        refine ⟨s, t, u, A, F, 1, rfl, rfl, by decide, by decide, ?_⟩
        exact bad (fun q => isS_n hk hk8 g q.2.2)
    · refine br_t xc_eq0 ?_
      refine ⟨s, t, u, A, F, 1, rfl, rfl, by decide, by decide, ?_⟩
      exact bad (fun q => isS_n hk hk8 g q.2.1)
  · refine br_t xc_eq0 ?_
    refine ⟨s, t, u, A, F, 1, rfl, rfl, by decide, by decide, ?_⟩
    exact bad (fun q => isS_n hk hk8 g q.1)
def sX9_as : XS := fun as w post => ∃ (s t u : Bool) (A : XA) (F : Nat → Int32) (mA : XA) (mF : Nat → Int32) (c n k : Nat) (x y : Int32), as = [.ref 0, .int x, .int y] ∧ w = CW s t u A F ∧ CI mA mF n k ∧ Rel mA mF A F ∧ Aux (mA 1) A F c ∧ c < 2 ^ 28 ∧ cQ (qas x y mA mF) c post
set_option maxRecDepth 10000 in
set_option maxHeartbeats 1000000 in
theorem mX9_as (d : Nat) (hd : 1 ≤ d) : xCT d yX9_as cX9_as 3 (some .int) sX9_as := by
  obtain ⟨d, rfl⟩ : ∃ e, d = e + 1 := ⟨d - 1, by omega⟩
  refine xmet0 (tb := tX9_as) (fl := fX9) (kc := nX9) (gs := g0) (cl := xlk [(117, true, 2, xrcv 1 (sX1_has_W)), (82, false, 3, sX9_within), (139, false, 2, sX9_isUnder), (86, true, 2, xrcv 9 (sX9_fail))]) 400 (by decide) tX9_as_ok fX9_ok nX9_ok g0_ok (xg_cons (k_X9_117 (mX1_has_W d (by omega))) (xg_cons (k_X9_82 (mX9_within d (by omega))) (xg_cons (k_X9_139 (mX9_isUnder d (by omega))) (xg_cons (k_X9_86 (mX9_fail d (by omega))) xg_nil)))) ?_
  rintro L xs as w Qp ⟨s, t, u, A, F, mA, mF, c, n, k, x, y, rfl, rfl, hC, hR, hX, hc, h⟩
  obtain ⟨hn, hn2, hn12, hk, hk8, hF11, hF12, hA, hKV, h54, h58⟩ := ctx hC hR hX
  refine ⟨Nat.le_of_ble_eq_true rfl, ?_⟩
  refine ⟨s, t, u, A, F, x, k, rfl, rfl, hF12, hk8, fun i hi es => ?_, fun g => ?_⟩
  · subst es
    refine br_f xc_eq1 ?_
    have ei : (nI i).toNatClampNeg = i := cl (by omega)
    have i0 : vp_in (nI i) 8 := vp_in_nI (by omega) (by decide)
    refine ⟨y, 0, 6, rfl, fun g1 g2 => ?_, fun g => ?_⟩
    · refine br_t xc_ne1 ?_
      obtain ⟨b, hb, eb⟩ := rg (c := 6) (by omega) g1 g2
      subst eb
      obtain ⟨a, ha, ea⟩ := (hC.1.2.2.2.2.2.1 i hi).1
      have ea : mA 1 (8 + 8 * i + 0) = nI a := ea
      refine And.intro i0 ?_
      have e2 : A 2 (nI i).toNatClampNeg = nI a := by rw [ei, (hA i hi).1, ea]
      refine ⟨a, b, by rw [← e2], ha, by omega, fun g => ?_, fun g => ?_⟩
      · refine br_f xc_eq1 ?_
        refine And.intro i0 ?_
        refine cQ_s h (cif_t' ⟨isS_i hk hk8 hi, g1, g2⟩ (cif_t' (by rw [ei, ea]; exact g) ?_)) hR hX
        rw [ei, (hA i hi).2.1]
      · refine br_t xc_eq0 ?_
        refine ⟨s, t, u, A, F, 5, rfl, rfl, by decide, by decide, ?_⟩
        exact cQ_e h (cif_t' ⟨isS_i hk hk8 hi, g1, g2⟩ (cif_f' (by rw [ei, ea]; exact g) rfl)) hR hX
    · refine br_f xc_ne0 ?_
      refine ⟨s, t, u, A, F, 1, rfl, rfl, by decide, by decide, ?_⟩
      exact cQ_e h (cif_f' (fun q => g q.2) rfl) hR hX
  · refine br_t xc_eq0 ?_
    refine ⟨s, t, u, A, F, 1, rfl, rfl, by decide, by decide, ?_⟩
    exact cQ_e h (cif_f' (fun q => isS_n hk hk8 g q.1) rfl) hR hX
