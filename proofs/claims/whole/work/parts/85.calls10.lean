/-! ===== the class's calls: rounds, all states ===== -/
def sX9_round : XS := fun as w post => ∃ (s t u : Bool) (A : XA) (F : Nat → Int32) (mA : XA) (mF : Nat → Int32) (c n k : Nat) (y : Int32), as = [.ref 0, .int y] ∧ w = CW s t u A F ∧ CI mA mF n k ∧ Rel mA mF A F ∧ Aux (mA 1) A F c ∧ c < 2 ^ 28 ∧ cQ (qround y mA mF) c post
set_option maxRecDepth 10000 in
set_option maxHeartbeats 1000000 in
theorem mX9_round (d : Nat) (hd : 5 ≤ d) : xCT d yX9_round cX9_round 2 (some .int) sX9_round := by
  obtain ⟨d, rfl⟩ : ∃ e, d = e + 1 := ⟨d - 1, by omega⟩
  refine xmet0 (tb := tX9_round) (fl := fX9) (kc := nX9) (gs := g0) (cl := xlk [(82, false, 3, sX9_within), (86, true, 2, xrcv 9 (sX9_fail)), (224, true, 3, xrcv 4 (sX4_comesRound_W))]) 400 (by decide) tX9_round_ok fX9_ok nX9_ok g0_ok (xg_cons (k_X9_82 (mX9_within d (by omega))) (xg_cons (k_X9_86 (mX9_fail d (by omega))) (xg_cons (k_X9_224 (mX4_comesRound_W d (by omega))) xg_nil))) ?_
  rintro L xs as w Qp ⟨s, t, u, A, F, mA, mF, c, n, k, y, rfl, rfl, hC, hR, hX, hc, h⟩
  obtain ⟨hn, hn2, hn12, hk, hk8, hF11, hF12, hA, hKV, h54, h58⟩ := ctx hC hR hX
  obtain ⟨eN, eK⟩ := DI_nk hC.1
  unfold qround at h
  rw [eK] at h
  refine ⟨Nat.le_of_ble_eq_true rfl, ?_⟩
  refine ⟨y, 0, 1, rfl, fun g1 g2 => ?_, fun g => ?_⟩
  · refine br_t xc_ne1 ?_
    refine ⟨s, t, u, A, F, mA 1, n, k, c, rfl, rfl, hC.1, hC.2.1, hR.1, hKV, h54, by omega, h58, fun h3 A1 F1 hS hK hc1 h5 hF e50 e51 => ?_, fun h3 A1 F1 hS hK hc1 h5 hF => ?_⟩
    · have hR1 := Rel_scr hR (sm_w hS rfl) (fsm_w hF rfl)
      have hX1 : Aux (mA 1) A1 F1 (c + 1) := Aux_i hn hk hn12 hk8 hK hc1 h5
      refine br_t xc_ne1 ?_
      refine And.intro (fun g => ?_) (fun g => ?_)
      · have g : ¬ y = 0 := g
        exact cQ_s h (cif_t' ⟨g1, g2⟩ (cif_f' h3 (by rw [cif_f g, e51]))) hR1 hX1
      · have g : y = 0 := Classical.byContradiction g
        exact cQ_s h (cif_t' ⟨g1, g2⟩ (cif_f' h3 (by rw [cif_t g, e50]))) hR1 hX1
    · have hR1 := Rel_scr hR (sm_w hS rfl) (fsm_w hF rfl)
      have hX1 : Aux (mA 1) A1 F1 (c + 1) := Aux_i hn hk hn12 hk8 hK hc1 h5
      refine br_f xc_ne0 ?_
      refine ⟨s, t, u, A1, F1, 2, rfl, rfl, by decide, by decide, ?_⟩
      exact cQ_e h (cif_t' ⟨g1, g2⟩ (cif_t' h3 rfl)) hR1 hX1
  · refine br_f xc_ne0 ?_
    refine ⟨s, t, u, A, F, 1, rfl, rfl, by decide, by decide, ?_⟩
    exact cQ_e h (cif_f' g rfl) hR hX
def sX9_longer : XS := fun as w post => ∃ (s t u : Bool) (A : XA) (F : Nat → Int32) (mA : XA) (mF : Nat → Int32) (c n k : Nat) (y : Int32), as = [.ref 0, .int y] ∧ w = CW s t u A F ∧ CI mA mF n k ∧ Rel mA mF A F ∧ Aux (mA 1) A F c ∧ c < 2 ^ 28 ∧ cQ (qlonger y mA mF) c post
set_option maxRecDepth 10000 in
set_option maxHeartbeats 1000000 in
theorem mX9_longer (d : Nat) (hd : 6 ≤ d) : xCT d yX9_longer cX9_longer 2 (some .int) sX9_longer := by
  obtain ⟨d, rfl⟩ : ∃ e, d = e + 1 := ⟨d - 1, by omega⟩
  refine xmet0 (tb := tX9_longer) (fl := fX9) (kc := nX9) (gs := g0) (cl := xlk [(82, false, 3, sX9_within), (86, true, 2, xrcv 9 (sX9_fail)), (288, true, 3, xrcv 4 (sX4_findLongest_W))]) 400 (by decide) tX9_longer_ok fX9_ok nX9_ok g0_ok (xg_cons (k_X9_82 (mX9_within d (by omega))) (xg_cons (k_X9_86 (mX9_fail d (by omega))) (xg_cons (k_X9_288 (mX4_findLongest_W d (by omega))) xg_nil))) ?_
  rintro L xs as w Qp ⟨s, t, u, A, F, mA, mF, c, n, k, y, rfl, rfl, hC, hR, hX, hc, h⟩
  obtain ⟨hn, hn2, hn12, hk, hk8, hF11, hF12, hA, hKV, h54, h58⟩ := ctx hC hR hX
  obtain ⟨eN, eK⟩ := DI_nk hC.1
  unfold qlonger at h
  rw [eN, eK] at h
  refine ⟨Nat.le_of_ble_eq_true rfl, ?_⟩
  refine ⟨y, 0, 1, rfl, fun g1 g2 => ?_, fun g => ?_⟩
  · refine br_t xc_ne1 ?_
    refine ⟨s, t, u, A, F, mA 1, n, k, c, rfl, rfl, hC.1, hC.2.1, hR.1, hKV, h54, by omega, h58, fun A1 F1 c' hS hK hc' hc1 h5 hF hL => ?_⟩
    have hR1 := Rel_scr hR (sm_w hS rfl) (fsm_w hF rfl)
    have hX1 : Aux (mA 1) A1 F1 c' := Aux_i hn hk hn12 hk8 hK hc1 h5
    obtain ⟨l1, l2⟩ := hL
    refine And.intro (fun g => ?_) (fun g => ?_)
    · have g : ¬ F1 53 = 0 := g
      obtain ⟨e1, e2, _⟩ := l2.resolve_left (fun q => g q.2)
      have nl : ¬ (lgO (mA 1) n k k).1 < 0 := fun q => (fa_of_lt q).2.1 e2
      refine And.intro (fun g3 => ?_) (fun g3 => ?_)
      · have g3 : ¬ y = 0 := g3
        exact cQ_s h (cif_t' ⟨g1, g2⟩ (cif_f' nl (by rw [cif_f g3, l1]))) hR1 hX1
      · have g3 : y = 0 := Classical.byContradiction g3
        exact cQ_s h (cif_t' ⟨g1, g2⟩ (cif_f' nl (by rw [cif_t g3, e1]))) hR1 hX1
    · have g : F1 53 = 0 := Classical.byContradiction g
      have e1 : (lgO (mA 1) n k k).1 = -1 := l2.elim (fun q => q.1) (fun q => absurd g q.2.2)
      refine ⟨s, t, u, A1, F1, 2, rfl, rfl, by decide, by decide, ?_⟩
      exact cQ_e h (cif_t' ⟨g1, g2⟩ (cif_t' (by rw [e1]; decide) rfl)) hR1 hX1
  · refine br_f xc_ne0 ?_
    refine ⟨s, t, u, A, F, 1, rfl, rfl, by decide, by decide, ?_⟩
    exact cQ_e h (cif_f' g rfl) hR hX
def sX9_far : XS := fun as w post => ∃ (s t u : Bool) (A : XA) (F : Nat → Int32) (mA : XA) (mF : Nat → Int32) (c n k : Nat) (x y : Int32), as = [.ref 0, .int x, .int y] ∧ w = CW s t u A F ∧ CI mA mF n k ∧ Rel mA mF A F ∧ Aux (mA 1) A F c ∧ c < 2 ^ 28 ∧ cQ (qfar x y mA mF) c post
set_option maxRecDepth 10000 in
set_option maxHeartbeats 1000000 in
theorem mX9_far (d : Nat) (hd : 6 ≤ d) : xCT d yX9_far cX9_far 3 (some .int) sX9_far := by
  obtain ⟨d, rfl⟩ : ∃ e, d = e + 1 := ⟨d - 1, by omega⟩
  refine xmet0 (tb := tX9_far) (fl := fX9) (kc := nX9) (gs := g0) (cl := xlk [(82, false, 3, sX9_within), (117, true, 2, xrcv 1 (sX1_has_W)), (86, true, 2, xrcv 9 (sX9_fail)), (133, true, 3, xrcv 9 (sX9_noteAhead))]) 400 (by decide) tX9_far_ok fX9_ok nX9_ok g0_ok (xg_cons (k_X9_82 (mX9_within d (by omega))) (xg_cons (k_X9_117 (mX1_has_W d (by omega))) (xg_cons (k_X9_86 (mX9_fail d (by omega))) (xg_cons (k_X9_133 (mX9_noteAhead d (by omega))) xg_nil)))) ?_
  rintro L xs as w Qp ⟨s, t, u, A, F, mA, mF, c, n, k, x, y, rfl, rfl, hC, hR, hX, hc, h⟩
  obtain ⟨hn, hn2, hn12, hk, hk8, hF11, hF12, hA, hKV, h54, h58⟩ := ctx hC hR hX
  refine ⟨Nat.le_of_ble_eq_true rfl, ?_⟩
  refine ⟨x, 0, 500, rfl, fun g1 g2 => ?_, fun g => ?_⟩
  · refine br_f xc_eq1 ?_
    obtain ⟨m, hm, em⟩ := rg (c := 500) (by omega) g1 g2
    subst em
    refine ⟨s, t, u, A, F, y, k, rfl, rfl, hF12, hk8, fun i hi es => ?_, fun g => ?_⟩
    · subst es
      refine br_t xc_ne1 ?_
      refine ⟨s, t, u, A, F, mA, mF, c, n, k, m, i, rfl, rfl, hC, hR, hX, by omega, hi, fun s' A' v hR' hX' hv => ?_⟩
      exact cQ_s h (cif_t' ⟨⟨g1, g2⟩, isS_i hk hk8 hi⟩ (by rw [hk, cl (by omega), cl (by omega), cl (by omega), hv])) hR' hX'
    · refine br_f xc_ne0 ?_
      refine ⟨s, t, u, A, F, 1, rfl, rfl, by decide, by decide, ?_⟩
      exact cQ_e h (cif_f' (fun q => isS_n hk hk8 g q.2) rfl) hR hX
  · refine br_t xc_eq0 ?_
    refine ⟨s, t, u, A, F, 1, rfl, rfl, by decide, by decide, ?_⟩
    exact cQ_e h (cif_f' (fun q => g q.1) rfl) hR hX
/-- after all states were filled -/
theorem fil {mA : XA} {mF : Nat → Int32} {A A1 : XA} {F F1 : Nat → Int32} {c n k : Nat} {l m : List Nat} (hC : CI mA mF n k) (hR : Rel mA mF A F) (hX : Aux (mA 1) A F c) (hS : sm l A1 A) (hl : l.all (fun x => SCR.contains x) = true) (h58 : l.contains 58 = false) (hK : KV (fun i => A1 (39 + i)) (mA 1) n k) (hF : fsm m F1 F) (hm : m.all (fun x => FSC.contains x) = true) (hm4 : m.contains 54 = false) : Rel mA mF A1 F1 ∧ Aux (mA 1) A1 F1 c := by
  obtain ⟨hn, hn2, hn12, hk, hk8, hF11, hF12, hA, hKV, h54, h58'⟩ := ctx hC hR hX
  exact ⟨Rel_scr hR (sm_w hS hl) (fsm_w hF hm), Aux_i hn hk hn12 hk8 hK ((hF 54 hm4).trans h54) (fun q hq => by rw [hS 58 h58]; exact h58' q hq)⟩
def sX9_never : XS := fun as w post => ∃ (s t u : Bool) (A : XA) (F : Nat → Int32) (mA : XA) (mF : Nat → Int32) (c n k : Nat), as = [.ref 0] ∧ w = CW s t u A F ∧ CI mA mF n k ∧ Rel mA mF A F ∧ Aux (mA 1) A F c ∧ c < 2 ^ 28 ∧ cQ (qnever mA mF) c post
set_option maxRecDepth 10000 in
set_option maxHeartbeats 1000000 in
theorem mX9_never (d : Nat) (hd : 5 ≤ d) : xCT d yX9_never cX9_never 1 (some .int) sX9_never := by
  obtain ⟨d, rfl⟩ : ∃ e, d = e + 1 := ⟨d - 1, by omega⟩
  refine xmet0 (tb := tX9_never) (fl := fX9) (kc := nX9) (gs := g0) (cl := xlk [(234, true, 3, xrcv 0 (sX0_fill_W)), (86, true, 2, xrcv 9 (sX9_fail)), (254, true, 1, xrcv 0 (sX0_behindNone_W))]) 400 (by decide) tX9_never_ok fX9_ok nX9_ok g0_ok (xg_cons (k_X9_234 (mX0_fill_W d (by omega))) (xg_cons (k_X9_86 (mX9_fail d (by omega))) (xg_cons (k_X9_254 (mX0_behindNone_W d (by omega))) xg_nil))) ?_
  rintro L xs as w Qp ⟨s, t, u, A, F, mA, mF, c, n, k, rfl, rfl, hC, hR, hX, hc, h⟩
  obtain ⟨hn, hn2, hn12, hk, hk8, hF11, hF12, hA, hKV, h54, h58⟩ := ctx hC hR hX
  obtain ⟨eN, eK⟩ := DI_nk hC.1
  unfold qnever at h
  rw [eN, eK] at h
  refine ⟨Nat.le_of_ble_eq_true rfl, ?_⟩
  refine ⟨s, t, u, A, F, mA 1, n, k, rfl, rfl, hC.1, hC.2.1, hR.1, hKV, fun h3 A1 F1 hS hK e63 hF hb => ?_, fun h3 F1 hF => ?_⟩
  · obtain ⟨hR1, hX1⟩ := fil hC hR hX hS (by decide) rfl hK hF (by decide) rfl
    refine br_t xc_ne1 ?_
    refine ⟨s, t, u, A1, F1, nx (mA 1) n k, n ^ k, rfl, rfl, ⟨e63, h3, fun c hc => ⟨hb c hc, (nx_v hn hn2 hn12 hk8 c).2⟩⟩, fun A2 v hS2 hv => ?_⟩
    obtain ⟨hR2, hX2⟩ := fil hC hR1 hX1 hS2 (by decide) rfl (KV_cg hK (fun t ht => hS2 (39 + t) (row8 (by omega) (by decide)))) (fsm_rf (l := [])) (by decide) rfl
    exact cQ_s h (cif_t' h3 (by rw [hv])) hR2 hX2
  · obtain ⟨hR1, hX1⟩ := fil hC hR hX (sm_rf (l := [])) (by decide) rfl hKV hF (by decide) rfl
    refine br_f xc_ne0 ?_
    refine ⟨s, t, u, A, F1, 3, rfl, rfl, by decide, by decide, ?_⟩
    exact cQ_e h (cif_f' h3 rfl) hR1 hX1
def sX9_rings : XS := fun as w post => ∃ (s t u : Bool) (A : XA) (F : Nat → Int32) (mA : XA) (mF : Nat → Int32) (c n k : Nat) (y : Int32), as = [.ref 0, .int y] ∧ w = CW s t u A F ∧ CI mA mF n k ∧ Rel mA mF A F ∧ Aux (mA 1) A F c ∧ c < 2 ^ 28 ∧ cQ (qrings y mA mF) c post
set_option maxRecDepth 10000 in
set_option maxHeartbeats 1000000 in
theorem mX9_rings (d : Nat) (hd : 5 ≤ d) : xCT d yX9_rings cX9_rings 2 (some .int) sX9_rings := by
  obtain ⟨d, rfl⟩ : ∃ e, d = e + 1 := ⟨d - 1, by omega⟩
  refine xmet0 (tb := tX9_rings) (fl := fX9) (kc := nX9) (gs := g0) (cl := xlk [(82, false, 3, sX9_within), (234, true, 3, xrcv 0 (sX0_fill_W)), (86, true, 2, xrcv 9 (sX9_fail)), (258, true, 1, xrcv 0 (sX0_findRounds_W))]) 400 (by decide) tX9_rings_ok fX9_ok nX9_ok g0_ok (xg_cons (k_X9_82 (mX9_within d (by omega))) (xg_cons (k_X9_234 (mX0_fill_W d (by omega))) (xg_cons (k_X9_86 (mX9_fail d (by omega))) (xg_cons (k_X9_258 (mX0_findRounds_W d (by omega))) xg_nil)))) ?_
  rintro L xs as w Qp ⟨s, t, u, A, F, mA, mF, c, n, k, y, rfl, rfl, hC, hR, hX, hc, h⟩
  obtain ⟨hn, hn2, hn12, hk, hk8, hF11, hF12, hA, hKV, h54, h58⟩ := ctx hC hR hX
  obtain ⟨eN, eK⟩ := DI_nk hC.1
  unfold qrings at h
  rw [eN, eK] at h
  refine ⟨Nat.le_of_ble_eq_true rfl, ?_⟩
  refine ⟨y, 0, 1, rfl, fun g1 g2 => ?_, fun g => ?_⟩
  · refine br_t xc_ne1 ?_
    refine ⟨s, t, u, A, F, mA 1, n, k, rfl, rfl, hC.1, hC.2.1, hR.1, hKV, fun h3 A1 F1 hS hK e63 hF hb => ?_, fun h3 F1 hF => ?_⟩
    · obtain ⟨hR1, hX1⟩ := fil hC hR hX hS (by decide) rfl hK hF (by decide) rfl
      refine br_t xc_ne1 ?_
      refine ⟨s, t, u, A1, F1, nx (mA 1) n k, n ^ k, rfl, rfl, ⟨e63, h3, fun c hc => ⟨hb c hc, (nx_v hn hn2 hn12 hk8 c).2⟩⟩, fun A2 F2 hS2 hF2 e60 e62 => ?_⟩
      obtain ⟨hR2, hX2⟩ := fil hC hR1 hX1 hS2 (by decide) rfl (KV_cg hK (fun t ht => hS2 (39 + t) (row8 (by omega) (by decide)))) hF2 (by decide) rfl
      refine And.intro (fun g3 => ?_) (fun g3 => ?_)
      · have g3 : ¬ y = 0 := g3
        exact cQ_s h (cif_t' ⟨g1, g2⟩ (cif_t' h3 (by rw [cif_f g3, e62]))) hR2 hX2
      · have g3 : y = 0 := Classical.byContradiction g3
        exact cQ_s h (cif_t' ⟨g1, g2⟩ (cif_t' h3 (by rw [cif_t g3, e60]))) hR2 hX2
    · obtain ⟨hR1, hX1⟩ := fil hC hR hX (sm_rf (l := [])) (by decide) rfl hKV hF (by decide) rfl
      refine br_f xc_ne0 ?_
      refine ⟨s, t, u, A, F1, 3, rfl, rfl, by decide, by decide, ?_⟩
      exact cQ_e h (cif_t' ⟨g1, g2⟩ (cif_f' h3 rfl)) hR1 hX1
  · refine br_f xc_ne0 ?_
    refine ⟨s, t, u, A, F, 1, rfl, rfl, by decide, by decide, ?_⟩
    exact cQ_e h (cif_f' g rfl) hR hX
def sX9_before : XS := fun as w post => ∃ (s t u : Bool) (A : XA) (F : Nat → Int32) (mA : XA) (mF : Nat → Int32) (c n k : Nat) (y : Int32), as = [.ref 0, .int y] ∧ w = CW s t u A F ∧ CI mA mF n k ∧ Rel mA mF A F ∧ Aux (mA 1) A F c ∧ c < 2 ^ 28 ∧ cQ (qbefore y mA mF) c post
set_option maxRecDepth 10000 in
set_option maxHeartbeats 1000000 in
theorem mX9_before (d : Nat) (hd : 5 ≤ d) : xCT d yX9_before cX9_before 2 (some .int) sX9_before := by
  obtain ⟨d, rfl⟩ : ∃ e, d = e + 1 := ⟨d - 1, by omega⟩
  refine xmet0 (tb := tX9_before) (fl := fX9) (kc := nX9) (gs := g0) (cl := xlk [(82, false, 3, sX9_within), (234, true, 3, xrcv 0 (sX0_fill_W)), (86, true, 2, xrcv 9 (sX9_fail)), (220, true, 2, xrcv 1 (sX1_stateOf_W)), (251, true, 2, xrcv 0 (sX0_findAhead_W))]) 400 (by decide) tX9_before_ok fX9_ok nX9_ok g0_ok (xg_cons (k_X9_82 (mX9_within d (by omega))) (xg_cons (k_X9_234 (mX0_fill_W d (by omega))) (xg_cons (k_X9_86 (mX9_fail d (by omega))) (xg_cons (k_X9_220 (mX1_stateOf_W d (by omega))) (xg_cons (k_X9_251 (mX0_findAhead_W d (by omega))) xg_nil))))) ?_
  rintro L xs as w Qp ⟨s, t, u, A, F, mA, mF, c, n, k, y, rfl, rfl, hC, hR, hX, hc, h⟩
  obtain ⟨hn, hn2, hn12, hk, hk8, hF11, hF12, hA, hKV, h54, h58⟩ := ctx hC hR hX
  obtain ⟨eN, eK⟩ := DI_nk hC.1
  unfold qbefore at h
  rw [eN, eK] at h
  refine ⟨Nat.le_of_ble_eq_true rfl, ?_⟩
  refine ⟨y, 0, 1, rfl, fun g1 g2 => ?_, fun g => ?_⟩
  · refine br_t xc_ne1 ?_
    refine ⟨s, t, u, A, F, mA 1, n, k, rfl, rfl, hC.1, hC.2.1, hR.1, hKV, fun h3 A1 F1 hS hK e63 hF hb => ?_, fun h3 F1 hF => ?_⟩
    · obtain ⟨hR1, hX1⟩ := fil hC hR hX hS (by decide) rfl hK hF (by decide) rfl
      obtain ⟨_, _, _, _, _, hF11', hF12', hA', _, _, _⟩ := ctx hC hR1 hX1
      refine br_t xc_ne1 ?_
      refine ⟨s, t, u, A1, F1, k, rfl, rfl, hF12', hk8, fun v hv => ?_⟩
      have hv : v = numF (mA 1 1) (nw (mA 1)) k 0 := by
        rw [hv, show F1 11 = mA 1 1 from hR1.1.1]
        exact numF_cg k 0 (fun i hi => (hA' i hi).2.2.1)
      refine ⟨s, t, u, A1, F1, nx (mA 1) n k, n ^ k, v, rfl, rfl, ⟨e63, h3, fun c hc => ⟨hb c hc, (nx_v hn hn2 hn12 hk8 c).2⟩⟩, fun F2 e60 e61 hF2 => ?_⟩
      rw [hv] at e60 e61
      obtain ⟨hR2, hX2⟩ := fil hC hR1 hX1 (sm_rf (l := [])) (by decide) rfl hK hF2 (by decide) rfl
      refine And.intro (fun g3 => ?_) (fun g3 => ?_)
      · have g3 : ¬ y = 0 := g3
        exact cQ_s h (cif_t' ⟨g1, g2⟩ (cif_t' h3 (by rw [cif_f g3, e61]))) hR2 hX2
      · have g3 : y = 0 := Classical.byContradiction g3
        exact cQ_s h (cif_t' ⟨g1, g2⟩ (cif_t' h3 (by rw [cif_t g3, e60]))) hR2 hX2
    · obtain ⟨hR1, hX1⟩ := fil hC hR hX (sm_rf (l := [])) (by decide) rfl hKV hF (by decide) rfl
      refine br_f xc_ne0 ?_
      refine ⟨s, t, u, A, F1, 3, rfl, rfl, by decide, by decide, ?_⟩
      exact cQ_e h (cif_t' ⟨g1, g2⟩ (cif_f' h3 rfl)) hR1 hX1
  · refine br_f xc_ne0 ?_
    refine ⟨s, t, u, A, F, 1, rfl, rfl, by decide, by decide, ?_⟩
    exact cQ_e h (cif_f' g rfl) hR hX
def sX9_best : XS := fun as w post => ∃ (s t u : Bool) (A : XA) (F : Nat → Int32) (mA : XA) (mF : Nat → Int32) (c n k : Nat) (x : Int32), as = [.ref 0, .int x] ∧ w = CW s t u A F ∧ CI mA mF n k ∧ Rel mA mF A F ∧ Aux (mA 1) A F c ∧ c < 2 ^ 28 ∧ cQ (qbest x mA mF) c post
set_option maxRecDepth 10000 in
set_option maxHeartbeats 1000000 in
theorem mX9_best (d : Nat) (hd : 5 ≤ d) : xCT d yX9_best cX9_best 2 (some .int) sX9_best := by
  obtain ⟨d, rfl⟩ : ∃ e, d = e + 1 := ⟨d - 1, by omega⟩
  refine xmet0 (tb := tX9_best) (fl := fX9) (kc := nX9) (gs := g0) (cl := xlk [(82, false, 3, sX9_within), (234, true, 3, xrcv 0 (sX0_fill_W)), (86, true, 2, xrcv 9 (sX9_fail)), (247, true, 3, xrcv 0 (sX0_worthiest_W))]) 400 (by decide) tX9_best_ok fX9_ok nX9_ok g0_ok (xg_cons (k_X9_82 (mX9_within d (by omega))) (xg_cons (k_X9_234 (mX0_fill_W d (by omega))) (xg_cons (k_X9_86 (mX9_fail d (by omega))) (xg_cons (k_X9_247 (mX0_worthiest_W d (by omega))) xg_nil)))) ?_
  rintro L xs as w Qp ⟨s, t, u, A, F, mA, mF, c, n, k, x, rfl, rfl, hC, hR, hX, hc, h⟩
  obtain ⟨hn, hn2, hn12, hk, hk8, hF11, hF12, hA, hKV, h54, h58⟩ := ctx hC hR hX
  obtain ⟨eN, eK⟩ := DI_nk hC.1
  unfold qbest aft at h
  rw [eN, eK] at h
  refine ⟨Nat.le_of_ble_eq_true rfl, ?_⟩
  refine ⟨x, 0, 60, rfl, fun g1 g2 => ?_, fun g => ?_⟩
  · refine br_t xc_ne1 ?_
    obtain ⟨m, hm, em⟩ := rg (c := 60) (by omega) g1 g2
    subst em
    refine ⟨s, t, u, A, F, mA 1, n, k, rfl, rfl, hC.1, hC.2.1, hR.1, hKV, fun h3 A1 F1 hS hK e63 hF hb => ?_, fun h3 F1 hF => ?_⟩
    · obtain ⟨hR1, hX1⟩ := fil hC hR hX hS (by decide) rfl hK hF (by decide) rfl
      refine br_t xc_ne1 ?_
      refine ⟨s, t, u, A1, F1, mA 1, n, k, nx (mA 1) n k, n ^ k, m, rfl, rfl, hC.1, hC.2.2.1, hR1.1, ⟨e63, h3, fun c hc => ⟨hb c hc, (nx_v hn hn2 hn12 hk8 c).2⟩⟩, Nat.pow_pos (by omega), by omega, fun A2 v hS2 hv => ?_⟩
      obtain ⟨hR2, hX2⟩ := fil hC hR1 hX1 hS2 (by decide) rfl (KV_cg hK (fun t ht => hS2 (39 + t) (row8 (by omega) (by decide)))) (fsm_rf (l := [])) (by decide) rfl
      exact cQ_s h (cif_t' ⟨g1, g2⟩ (cif_t' h3 (by rw [hv, cl (by omega)]))) hR2 hX2
    · obtain ⟨hR1, hX1⟩ := fil hC hR hX (sm_rf (l := [])) (by decide) rfl hKV hF (by decide) rfl
      refine br_f xc_ne0 ?_
      refine ⟨s, t, u, A, F1, 3, rfl, rfl, by decide, by decide, ?_⟩
      exact cQ_e h (cif_t' ⟨g1, g2⟩ (cif_f' h3 rfl)) hR1 hX1
  · refine br_f xc_ne0 ?_
    refine ⟨s, t, u, A, F, 1, rfl, rfl, by decide, by decide, ?_⟩
    exact cQ_e h (cif_f' g rfl) hR hX
def sX9_beginnings : XS := fun as w post => ∃ (s t u : Bool) (A : XA) (F : Nat → Int32) (mA : XA) (mF : Nat → Int32) (c n k : Nat) (x y : Int32), as = [.ref 0, .int x, .int y] ∧ w = CW s t u A F ∧ CI mA mF n k ∧ Rel mA mF A F ∧ Aux (mA 1) A F c ∧ c < 2 ^ 28 ∧ cQ (qbeginnings x y mA mF) c post
set_option maxRecDepth 10000 in
set_option maxHeartbeats 1000000 in
theorem mX9_beginnings (d : Nat) (hd : 5 ≤ d) : xCT d yX9_beginnings cX9_beginnings 3 (some .int) sX9_beginnings := by
  obtain ⟨d, rfl⟩ : ∃ e, d = e + 1 := ⟨d - 1, by omega⟩
  refine xmet0 (tb := tX9_beginnings) (fl := fX9) (kc := nX9) (gs := g0) (cl := xlk [(82, false, 3, sX9_within), (234, true, 3, xrcv 0 (sX0_fill_W)), (86, true, 2, xrcv 9 (sX9_fail)), (237, true, 3, xrcv 0 (sX0_findWished_W))]) 400 (by decide) tX9_beginnings_ok fX9_ok nX9_ok g0_ok (xg_cons (k_X9_82 (mX9_within d (by omega))) (xg_cons (k_X9_234 (mX0_fill_W d (by omega))) (xg_cons (k_X9_86 (mX9_fail d (by omega))) (xg_cons (k_X9_237 (mX0_findWished_W d (by omega))) xg_nil)))) ?_
  rintro L xs as w Qp ⟨s, t, u, A, F, mA, mF, c, n, k, x, y, rfl, rfl, hC, hR, hX, hc, h⟩
  obtain ⟨hn, hn2, hn12, hk, hk8, hF11, hF12, hA, hKV, h54, h58⟩ := ctx hC hR hX
  obtain ⟨eN, eK⟩ := DI_nk hC.1
  unfold qbeginnings aft at h
  rw [eN, eK] at h
  refine ⟨Nat.le_of_ble_eq_true rfl, ?_⟩
  refine ⟨x, 0, 60, rfl, fun g1 g2 => ?_, fun g => ?_⟩
  · refine br_f xc_eq1 ?_
    obtain ⟨m, hm, em⟩ := rg (c := 60) (by omega) g1 g2
    subst em
    rw [cl (by omega)] at h
    refine ⟨y, 0, 1, rfl, fun g3 g4 => ?_, fun g => ?_⟩
    · refine br_t xc_ne1 ?_
      refine ⟨s, t, u, A, F, mA 1, n, k, rfl, rfl, hC.1, hC.2.1, hR.1, hKV, fun h3 A1 F1 hS hK e63 hF hb => ?_, fun h3 F1 hF => ?_⟩
      · obtain ⟨hR1, hX1⟩ := fil hC hR hX hS (by decide) rfl hK hF (by decide) rfl
        refine br_t xc_ne1 ?_
        refine ⟨s, t, u, A1, F1, mA 1, n, k, nx (mA 1) n k, n ^ k, m, rfl, rfl, hC.1, hR1.1, ⟨e63, h3, fun c hc => ⟨hb c hc, (nx_v hn hn2 hn12 hk8 c).2⟩⟩, by omega, fun F2 e60 e61 hF2 => ?_⟩
        obtain ⟨hR2, hX2⟩ := fil hC hR1 hX1 (sm_rf (l := [])) (by decide) rfl hK hF2 (by decide) rfl
        refine And.intro (fun g5 => ?_) (fun g5 => ?_)
        · have g5 : ¬ y = 0 := g5
          exact cQ_s h (cif_t' ⟨⟨g1, g2⟩, g3, g4⟩ (cif_t' h3 (by rw [cif_f g5, e61]))) hR2 hX2
        · have g5 : y = 0 := Classical.byContradiction g5
          exact cQ_s h (cif_t' ⟨⟨g1, g2⟩, g3, g4⟩ (cif_t' h3 (by rw [cif_t g5, e60]))) hR2 hX2
      · obtain ⟨hR1, hX1⟩ := fil hC hR hX (sm_rf (l := [])) (by decide) rfl hKV hF (by decide) rfl
        refine br_f xc_ne0 ?_
        refine ⟨s, t, u, A, F1, 3, rfl, rfl, by decide, by decide, ?_⟩
        exact cQ_e h (cif_t' ⟨⟨g1, g2⟩, g3, g4⟩ (cif_f' h3 rfl)) hR1 hX1
    · refine br_f xc_ne0 ?_
      refine ⟨s, t, u, A, F, 1, rfl, rfl, by decide, by decide, ?_⟩
      exact cQ_e h (cif_f' (fun q => g q.2) rfl) hR hX
  · refine br_t xc_eq0 ?_
    refine ⟨s, t, u, A, F, 1, rfl, rfl, by decide, by decide, ?_⟩
    exact cQ_e h (cif_f' (fun q => g q.1) rfl) hR hX
