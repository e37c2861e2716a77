/-! ===== the class's calls: bars, loose ===== -/
/-- the data with other notes, bar and z -/
def ND (D r : Nat → Int32) (k : Nat) (b z : Int32) : Nat → Int32 := upd (endD (upd D 3 z) r k) 0 b
theorem nd_o {D r : Nat → Int32} {k j : Nat} {b z : Int32} (h0 : j ≠ 0) (h3 : j ≠ 3) (h : ∀ i, i < k → j ≠ 8 + 8 * i + 2) : ND D r k b z j = D j := by
  unfold ND
  rw [pk_un h0]
  unfold endD
  rw [if_neg, pk_un h3]
  rintro ⟨q1, q2, q3⟩
  exact h ((j - 8) / 8) q2 (by omega)
theorem nd_n {D r : Nat → Int32} {k i : Nat} {b z : Int32} (hi : i < k) : ND D r k b z (8 + 8 * i + 2) = r i := by
  unfold ND
  rw [pk_un (by omega)]
  unfold endD
  have e1 : (8 + 8 * i + 2 - 8) / 8 = i := by omega
  have e2 : (8 + 8 * i + 2 - 8) % 8 = 2 := by omega
  rw [e1, e2, if_pos ⟨by omega, hi, rfl⟩]
theorem nd_0 {D r : Nat → Int32} {k : Nat} {b z : Int32} : ND D r k b z 0 = b := pk_us
theorem nd_3 {D r : Nat → Int32} {k : Nat} {b z : Int32} : ND D r k b z 3 = z := by
  unfold ND
  rw [pk_un (by omega)]
  unfold endD
  rw [if_neg (by omega), pk_us]
theorem DI_nd {D r : Nat → Int32} {n k : Nat} {b z : Int32} (h : DI D n k) (hr : ∀ i, i < k → bd (r i) n) (hb : bd b 1000000) : DI (ND D r k b z) n k := by
  obtain ⟨h1, h2, h3, h4, h5, h6, h7, h8, h9, h10, h11, h12, h13⟩ := h
  refine ⟨by rw [nd_o (by omega) (by omega) (fun i hi => by omega)]; exact h1, h2, h3, by rw [nd_o (by omega) (by omega) (fun i hi => by omega)]; exact h4, h5, fun i hi => ?_, by rw [nd_0]; exact hb, by rw [nd_o (by omega) (by omega) (fun i hi => by omega)]; exact h8, by rw [nd_o (by omega) (by omega) (fun i hi => by omega)]; exact h9, by rw [nd_o (by omega) (by omega) (fun i hi => by omega)]; exact h10, by rw [nd_o (by omega) (by omega) (fun i hi => by omega)]; exact h11, fun j hj => by rw [nd_o (by omega) (by omega) (fun i hi => by omega)]; exact h12 j hj, fun j hj => by rw [nd_o (by omega) (by omega) (fun i hi => by omega)]; exact h13 j hj⟩
  have hg := h6 i hi
  unfold SG at hg ⊢
  rw [nd_n hi, nd_o (by omega) (by omega) (fun i hi => by omega), nd_o (by omega) (by omega) (fun i hi => by omega), nd_o (by omega) (by omega) (fun i hi => by omega), nd_o (by omega) (by omega) (fun i hi => by omega), nd_o (by omega) (by omega) (fun i hi => by omega), nd_o (by omega) (by omega) (fun i hi => by omega)]
  exact ⟨hg.1, hg.2.1, hr i hi, hg.2.2.2⟩
theorem TXO_72 {D D' : Nat → Int32} {v : Nat} (h : TXO D v) (hD : ∀ j, 72 ≤ j → D' j = D j) : TXO D' v := by
  unfold TXO at h ⊢
  have e : (fun j => D' (96 + 50 * v + j)) = fun j => D (96 + 50 * v + j) := funext fun j => hD _ (by omega)
  rw [e, hD (72 + v) (by omega)]
  exact h
theorem nd_72 {D r : Nat → Int32} {k j : Nat} {b z : Int32} (hk : k ≤ 8) (hj : 72 ≤ j) : ND D r k b z j = D j := nd_o (by omega) (by omega) (fun i hi => by omega)
theorem stp_nd {D r : Nat → Int32} {k : Nat} {b z : Int32} (hk : k ≤ 8) (x : Nat → Int32) : stp (ND D r k b z) k x = stp D k x := stp_nxt (d := D) (d' := ND D r k b z) (fun i l s => nxt_dcg (fun j hj => nd_72 hk hj) (nd_o (by omega) (by omega) (fun i hi => by omega)) (nd_o (by omega) (by omega) (fun i hi => by omega)) (nd_o (by omega) (by omega) (fun i hi => by omega)) l s) (fun i => by
  show (ND D r k b z (8 + 8 * i + 3)).toNatClampNeg = (D (8 + 8 * i + 3)).toNatClampNeg ∧ (ND D r k b z (8 + 8 * i + 4)).toNatClampNeg = (D (8 + 8 * i + 4)).toNatClampNeg
  rw [nd_o (by omega) (by omega) (fun i hi => by omega), nd_o (by omega) (by omega) (fun i hi => by omega)]
  exact ⟨rfl, rfl⟩) x
theorem KV_nd {K : Nat → Nat → Int32} {D r : Nat → Int32} {n k : Nat} {b z : Int32} (hk : k ≤ 8) : KV K (ND D r k b z) n k ↔ KV K D n k := ⟨fun h => KV_dcg h (fun j hj => (nd_72 hk hj).symm) (nd_o (by omega) (by omega) (fun i hi => by omega)).symm (fun i hi => ⟨(nd_o (by omega) (by omega) (fun i hi => by omega)).symm, (nd_o (by omega) (by omega) (fun i hi => by omega)).symm⟩), fun h => KV_dcg h (fun j hj => nd_72 hk hj) (nd_o (by omega) (by omega) (fun i hi => by omega)) (fun i hi => ⟨nd_o (by omega) (by omega) (fun i hi => by omega), nd_o (by omega) (by omega) (fun i hi => by omega)⟩)⟩
def NTL : List Nat := 4 :: SCR
theorem CR_nd {D r : Nat → Int32} {A A' : XA} {F F' : Nat → Int32} {n k : Nat} {b z : Int32} (h : CR D (adn CP1 A) F) (hI : DI D n k) (hS : sm NTL A' A) (hr : ∀ i, i < k → A' 4 i = r i) (hF : fsm [13, 14] F' F) (f13 : F' 13 = b) (f14 : F' 14 = z) : CR (ND D r k b z) (adn CP1 A') F' := by
  have hk : D 2 = nI k := hI.2.2.2.1
  have hk8 : k ≤ 8 := hI.2.2.2.2.1
  refine CRsg h (fun j hj => nd_72 hk8 hj) (nd_o (by omega) (by omega) (fun i hi => by omega)) (nd_o (by omega) (by omega) (fun i hi => by omega)) (nd_o (by omega) (by omega) (fun i hi => by omega)) (nd_o (by omega) (by omega) (fun i hi => by omega)) (f13.trans nd_0.symm) (f14.trans nd_3.symm) (hF 11 rfl) (hF 12 rfl) (hF 15 rfl) (hF 16 rfl) (hF 20 rfl) (hF 21 rfl) (hS 9 rfl) (hS 10 rfl) (hS 12 rfl) (hS 16 rfl) (fun j hj => ?_)
  have hjk : j < k := by
    rw [hk, cl (by omega)] at hj
    exact hj
  obtain ⟨a0, a1, a2, a3, a4, a5, a6⟩ := h.2.2.2.2.2.2.1 j hj
  rw [nd_n hjk, nd_o (j := 8 + 8 * j + 0) (by omega) (by omega) (fun i hi => by omega), nd_o (j := 8 + 8 * j + 1) (by omega) (by omega) (fun i hi => by omega), nd_o (j := 8 + 8 * j + 3) (by omega) (by omega) (fun i hi => by omega), nd_o (j := 8 + 8 * j + 4) (by omega) (by omega) (fun i hi => by omega), nd_o (j := 8 + 8 * j + 5) (by omega) (by omega) (fun i hi => by omega), nd_o (j := 8 + 8 * j + 6) (by omega) (by omega) (fun i hi => by omega)]
  exact ⟨(congrFun (hS 2 rfl) j).trans a0, (congrFun (hS 3 rfl) j).trans a1, hr j hjk, (congrFun (hS 6 rfl) j).trans a3, (congrFun (hS 7 rfl) j).trans a4, (congrFun (hS 5 rfl) j).trans a5, (congrFun (hS 8 rfl) j).trans a6⟩
def GBL : List Nat := [4, 48, 49, 39, 40, 41, 42, 43, 44, 45, 46, 13, 14]
def sX9_goBy : XS := fun as w post => ∃ (s t u : Bool) (A : XA) (F D : Nat → Int32) (n k m : Nat), as = [.ref 0, .int (nI m)] ∧ w = CW s t u A F ∧ DI D n k ∧ TXO D 0 ∧ CR D (adn CP1 A) F ∧ KV (fun i => A (39 + i)) D n k ∧ m < 2 ^ 31 ∧ ∀ s' A', sm GBL A' A → KV (fun i => A' (39 + i)) D n k → (∀ i, i < k → A' 4 i = itr D k m (nw D) i) → post none (CW s' t u A' (fset F 13 (F 13 + nI m)))
set_option maxRecDepth 10000 in
set_option maxHeartbeats 1000000 in
theorem mX9_goBy (d : Nat) (hd : 5 ≤ d) : xCT d yX9_goBy cX9_goBy 2 none sX9_goBy := by
  obtain ⟨d, rfl⟩ : ∃ e, d = e + 1 := ⟨d - 1, by omega⟩
  refine xmet0 (tb := tX9_goBy) (fl := fX9) (kc := nX9) (gs := g0) (cl := xlk [(209, true, 2, xrcv 5 (sX5_startFrom_Wr)), (213, true, 4, xrcv 5 (sX5_goOn_Wr)), (342, false, 5, xCpy)]) 400 (by decide) tX9_goBy_ok fX9_ok nX9_ok g0_ok (xg_cons (k_X9_209 (mX5_startFrom_Wr d (by omega))) (xg_cons (k_X9_213 (mX5_goOn_Wr d (by omega))) (xg_cons (k_X9_342_copy (xrm_ok d)) xg_nil))) ?_
  rintro L xs as w Qp ⟨s, t, u, A, F, D, n, k, m, rfl, rfl, hI, hT, hC, hKV, hm, h⟩
  obtain ⟨hn, hn2, hn12, hk, hk8, hSG, _⟩ := id hI
  have hkN : (D 2).toNatClampNeg = k := by rw [hk, cl (by omega)]
  refine ⟨Nat.le_of_ble_eq_true rfl, ?_⟩
  refine ⟨s, t, u, A, F, rfl, rfl, fun A1 e1 => ?_⟩
  have hS1 : sm [48, 49] A1 A := by rw [e1]; exact sm_aset (by cases s <;> rfl)
  have hr1 : ∀ i, i < k → A1 (rp s) i = nw D i := fun i hi => by
    rw [e1, aset_s, cpU_lt (by omega)]
    exact (hC.2.2.2.2.2.2.1 i (by rw [hkN]; exact hi)).2.2.1
  refine ⟨s, t, u, A1, F, D, n, k, m, rfl, rfl, hm, hI, hT, CRsm (CP := CP1) hC hS1 (by decide), KV_cg hKV (fun t ht => hS1 (39 + t) (row8 (by omega) (by decide))), fun i hi => by rw [hr1 i hi]; exact (hSG i hi).2.2.1, fun s' A2 hS2 hK2 hr2 => ?_⟩
  have hr3 : ∀ i, i < k → A2 (rp s') i = itr D k m (nw D) i := fun i hi => by rw [hr2 i hi, itr_cg hI hr1 m i hi]
  cases s'
  · refine And.intro ⟨by decide, by decide, by decide, by decide, by decide⟩ ?_
    have h9 := h false (aset A2 4 (cpU (A2 (rp false)) (A2 4) 8)) (sm_tr (sm_tr (sm_w hS1 rfl) (sm_w hS2 rfl)) (sm_aset rfl)) (KV_cg hK2 (fun t ht => asN (by omega))) (fun i hi => by rw [aset_s, cpU_lt (by omega)]; exact hr3 i hi)
    rw [← cpy_cpU] at h9
    exact h9
  · refine And.intro ⟨by decide, by decide, by decide, by decide, by decide⟩ ?_
    have h9 := h true (aset A2 4 (cpU (A2 (rp true)) (A2 4) 8)) (sm_tr (sm_tr (sm_w hS1 rfl) (sm_w hS2 rfl)) (sm_aset rfl)) (KV_cg hK2 (fun t ht => asN (by omega))) (fun i hi => by rw [aset_s, cpU_lt (by omega)]; exact hr3 i hi)
    rw [← cpy_cpU] at h9
    exact h9
def sX9_bars : XS := fun as w post => ∃ (s t u : Bool) (A : XA) (F : Nat → Int32) (mA : XA) (mF : Nat → Int32) (c n k : Nat) (x : Int32), as = [.ref 0, .int x] ∧ w = CW s t u A F ∧ CI mA mF n k ∧ Rel mA mF A F ∧ Aux (mA 1) A F c ∧ c < 2 ^ 28 ∧ cQ (qbars x mA mF) c post
set_option maxRecDepth 10000 in
set_option maxHeartbeats 1000000 in
theorem mX9_bars (d : Nat) (hd : 6 ≤ d) : xCT d yX9_bars cX9_bars 2 (some .int) sX9_bars := by
  obtain ⟨d, rfl⟩ : ∃ e, d = e + 1 := ⟨d - 1, by omega⟩
  refine xmet0 (tb := tX9_bars) (fl := fX9) (kc := nX9) (gs := g0) (cl := xlk [(82, false, 3, sX9_within), (86, true, 2, xrcv 9 (sX9_fail)), (203, true, 2, xrcv 9 (sX9_goBy))]) 400 (by decide) tX9_bars_ok fX9_ok nX9_ok g0_ok (xg_cons (k_X9_82 (mX9_within d (by omega))) (xg_cons (k_X9_86 (mX9_fail d (by omega))) (xg_cons (k_X9_203 (mX9_goBy d (by omega))) xg_nil))) ?_
  rintro L xs as w Qp ⟨s, t, u, A, F, mA, mF, c, n, k, x, rfl, rfl, hC, hR, hX, hc, h⟩
  obtain ⟨hn, hn2, hn12, hk, hk8, hF11, hF12, hA, hKV, h54, h58⟩ := ctx hC hR hX
  refine ⟨Nat.le_of_ble_eq_true rfl, ?_⟩
  have e13 : F 13 = mA 1 0 := hR.1.2.2.1
  refine ⟨x, 1, 500, rfl, fun g1 g2 => ?_, fun g => ?_⟩
  · refine br_t xc_ne1 ?_
    obtain ⟨m, hm, em⟩ := rg (c := 500) (by omega) (show (0 : Int32) ≤ x from by
      rw [fa_le] at g1 ⊢
      exact Int.le_trans (by decide) g1) g2
    subst em
    refine And.intro (fun g => ?_) (fun g => ?_)
    · have g : F 13 + nI m ≤ 999999 := g
      refine ⟨s, t, u, A, F, mA 1, n, k, m, rfl, rfl, hC.1, hC.2.1, hR.1, hKV, by omega, fun s' A' hS hK hr => ?_⟩
      have hI := hC.1
      have q := CR_nd (D := mA 1) (r := itr (mA 1) k m (nw (mA 1))) (b := F 13 + nI m) (z := mA 1 3) hR.1 hI (sm_w hS rfl) hr (fsm_fset (q := 13) rfl) rfl (hR.1.2.2.2.1)
      refine cQ_ch (ND (mA 1) (itr (mA 1) k m (nw (mA 1))) k (F 13 + nI m) (mA 1 3)) (c' := c) h ?_ hR (sm_w hS rfl) (fsm_fset rfl) q (by rw [hS 9 rfl]; exact hR.2.2.2.2.2.2.2.1) (Aux_i ((nd_o (by omega) (by omega) (fun i hi => by omega)).trans hn) ((nd_o (by omega) (by omega) (fun i hi => by omega)).trans hk) hn12 hk8 ((KV_nd hk8).mpr hK) h54 (fun q hq => by rw [hS 58 rfl]; exact h58 q hq))
      refine cif_t' ⟨g1, g2⟩ (cif_f' (by rw [← e13]; exact fun q => (fa_of_lt q).2.1 g) ?_)
      unfold ND
      rw [hk, cl (by omega), cl (by omega), ← e13, upd_id]
      rfl
    · have g : ¬ F 13 + nI m ≤ 999999 := g
      refine ⟨s, t, u, A, F, 3, rfl, rfl, by decide, by decide, ?_⟩
      exact cQ_e h (cif_t' ⟨g1, g2⟩ (cif_t' (by rw [← e13]; exact fa_of_nle g) rfl)) hR hX
  · refine br_f xc_ne0 ?_
    refine ⟨s, t, u, A, F, 1, rfl, rfl, by decide, by decide, ?_⟩
    exact cQ_e h (cif_f' g rfl) hR hX
def sX9_loose : XS := fun as w post => ∃ (s t u : Bool) (A : XA) (F : Nat → Int32) (mA : XA) (mF : Nat → Int32) (c n k : Nat) (x p : Int32), as = [.ref 0, .int x, .int p] ∧ w = CW s t u A F ∧ CI mA mF n k ∧ Rel mA mF A F ∧ Aux (mA 1) A F c ∧ c < 2 ^ 28 ∧ cQ (qloose x p mA mF) c post
set_option maxRecDepth 10000 in
set_option maxHeartbeats 1000000 in
theorem mX9_loose (d : Nat) (hd : 6 ≤ d) : xCT d yX9_loose cX9_loose 4 (some .int) sX9_loose := by
  obtain ⟨d, rfl⟩ : ∃ e, d = e + 1 := ⟨d - 1, by omega⟩
  refine xmet (tb := tX9_loose) (fl := fX9) (kc := nX9) (gs := g0) (cl := xlk [(82, false, 3, sX9_within), (86, true, 2, xrcv 9 (sX9_fail)), (203, true, 2, xrcv 9 (sX9_goBy)), (206, true, 2, xrcv 1 (sX1_slip_W))]) (by decide) tX9_loose_ok fX9_ok nX9_ok g0_ok (xg_cons (k_X9_82 (mX9_within d (by omega))) (xg_cons (k_X9_86 (mX9_fail d (by omega))) (xg_cons (k_X9_203 (mX9_goBy d (by omega))) (xg_cons (k_X9_206 (mX1_slip_W d (by omega))) xg_nil)))) ?_
  rintro L xs as w Qp ⟨s, t, u, A, F, mA, mF, c, n, k, x, p, rfl, rfl, hC, hR, hX, hc, h⟩
  obtain ⟨hn, hn2, hn12, hk, hk8, hF11, hF12, hA, hKV, h54, h58⟩ := ctx hC hR hX
  have e13 : F 13 = mA 1 0 := hR.1.2.2.1
  have e14 : F 14 = mA 1 3 := hR.1.2.2.2.1
  have hI := hC.1
  obtain ⟨b0, hb0, eb0⟩ := hI.2.2.2.2.2.2.1
  have hrb : ∀ i j, j < k → bd ((lsI (mA 1) k p i).1 j) n := by
    intro i
    induction i with
    | zero => exact fun j hj => (hI.2.2.2.2.2.1 j hj).2.2.1
    | succ i ih =>
      intro j hj
      show bd ((cif (rm (drO (dr1 (dr1 (lsI (mA 1) k p i).2))) 100 < p) (upd (stp (mA 1) k (lsI (mA 1) k p i).1) (sx k (lsI (mA 1) k p i).2) (rm (stp (mA 1) k (lsI (mA 1) k p i).1 (sx k (lsI (mA 1) k p i).2) + 1) (mA 1 1))) (stp (mA 1) k (lsI (mA 1) k p i).1)) j) n
      by_cases g : rm (drO (dr1 (dr1 (lsI (mA 1) k p i).2))) 100 < p
      · rw [cif_t g]
        by_cases q : j = sx k (lsI (mA 1) k p i).2
        · rw [← q, pk_us]
          obtain ⟨v, hv, ev⟩ := stp_bd hn hn2 hn12 (lsI (mA 1) k p i).1 j hj
          rw [ev, hn]
          unfold rm
          rw [nI_1, pk_rem (by omega) (by omega) (by omega)]
          exact ⟨_, Nat.mod_lt _ (by omega), rfl⟩
        · rw [pk_un q]
          exact stp_bd hn hn2 hn12 _ j hj
      · rw [cif_f g]
        exact stp_bd hn hn2 hn12 _ j hj
  refine ⟨Nat.le_of_ble_eq_true rfl, 400, xlk [(51, 1), (59, 4)], fun m pc ls st w => st = [] ∧ ((pc = 51 ∧ m = 0 ∧ ls = [(0, .ref 0)] ∧ w = CW s t u A F ∧ ((1 ≤ x ∧ x ≤ 500) ∧ (0 ≤ p ∧ p ≤ 100)) ∧ (999999 < mA 1 0 + x ∨ mA 1 2 = 0)) ∨ (pc = 59 ∧ ∃ l i s' A' F', x = nI l ∧ 1 ≤ l ∧ l ≤ 500 ∧ b0 + l ≤ 999999 ∧ 0 < k ∧ ((1 ≤ x ∧ x ≤ 500) ∧ (0 ≤ p ∧ p ≤ 100)) ∧ i ≤ l ∧ m = 1 + (l - i) ∧ ls = [(0, .ref 0), (1, .int (nI l)), (2, .int p), (3, .int (nI i))] ∧ w = CW s' t u A' F' ∧ sm NTL A' A ∧ A' 58 = A 58 ∧ KV (fun i => A' (39 + i)) (mA 1) n k ∧ (∀ j, j < k → A' 4 j = (lsI (mA 1) k p i).1 j) ∧ fsm [13, 14] F' F ∧ F' 13 = nI (b0 + i) ∧ F' 14 = (lsI (mA 1) k p i).2)), ?_, ?_⟩
  · refine ⟨x, 1, 500, rfl, fun g1 g2 => ?_, fun g => ?_⟩
    · refine br_f xc_eq1 ?_
      obtain ⟨l, hl, el⟩ := rg (c := 500) (by omega) (show (0 : Int32) ≤ x from by
        rw [fa_le] at g1 ⊢
        exact Int.le_trans (by decide) g1) g2
      have hl1 : 1 ≤ l := by
        rw [el, show (1 : Int32) = nI 1 from rfl, fa_le, nI_toInt (by omega), nI_toInt (by omega)] at g1
        omega
      refine ⟨p, 0, 100, rfl, fun g3 g4 => ?_, fun g => ?_⟩
      · refine br_t xc_ne1 ?_
        refine And.intro (fun g5 => ?_) (fun g5 => ?_)
        · have g5 : 999999 < F 13 + x := g5
          exact ⟨0, rfl, Or.inl ⟨rfl, rfl, rfl, rfl, ⟨⟨g1, g2⟩, g3, g4⟩, Or.inl (by rw [← e13]; exact g5)⟩⟩
        · have g5 : ¬ 999999 < F 13 + x := g5
          have hbl : b0 + l ≤ 999999 := by
            refine Classical.byContradiction (fun q => g5 ?_)
            rw [e13, eb0, el, nI_add]
            exact nI_lt (a := 999999) (by omega) (by omega)
          refine And.intro (fun g6 => ?_) (fun g6 => ?_)
          · have g6 : ¬ F 12 = 0 := g6
            have hk0 : 0 < k := by
              rcases Nat.eq_zero_or_pos k with q | q
              · exact absurd (by rw [hF12, q]; rfl) g6
              · exact q
            exact ⟨1 + (l - 0), rfl, Or.inr ⟨rfl, l, 0, s, A, F, el, hl1, hl, hbl, hk0, ⟨⟨g1, g2⟩, g3, g4⟩, Nat.zero_le _, rfl, by rw [← el]; rfl, rfl, sm_rf, rfl, hKV, fun j hj => (hA j hj).2.2.1, fsm_rf, by rw [e13, eb0]; rfl, e14⟩⟩
          · have g6 : F 12 = 0 := Classical.byContradiction g6
            exact ⟨0, rfl, Or.inl ⟨rfl, rfl, rfl, rfl, ⟨⟨g1, g2⟩, g3, g4⟩, Or.inr (by rw [← show F 12 = mA 1 2 from hR.1.2.1]; exact g6)⟩⟩
      · refine br_f xc_ne0 ?_
        refine ⟨s, t, u, A, F, 1, rfl, rfl, by decide, by decide, ?_⟩
        exact cQ_e h (cif_f' (fun q => g q.2) rfl) hR hX
    · refine br_t xc_eq0 ?_
      refine ⟨s, t, u, A, F, 1, rfl, rfl, by decide, by decide, ?_⟩
      exact cQ_e h (cif_f' (fun q => g q.1) rfl) hR hX
  · rintro m pc m9 ls st w hc9 ⟨rfl, ⟨rfl, rfl, rfl, rfl, g1, g2⟩ | ⟨rfl, l, i, s', A', F', ex, hl1, hl5, hbl, hk0, g1, hi, rfl, rfl, rfl, hS, h58', hK, hr, hF, f13, f14⟩⟩
    · refine ⟨s, t, u, A, F, 3, rfl, rfl, by decide, by decide, ?_⟩
      exact cQ_e h (cif_t' g1 (cif_t' g2 rfl)) hR hX
    · have hCR := CR_nd (D := mA 1) (r := (lsI (mA 1) k p i).1) (b := nI (b0 + i)) (z := (lsI (mA 1) k p i).2) hR.1 hI hS hr hF f13 f14
      have hDI : DI (ND (mA 1) (lsI (mA 1) k p i).1 k (nI (b0 + i)) (lsI (mA 1) k p i).2) n k := DI_nd hI (hrb i) ⟨b0 + i, by omega, rfl⟩
      refine And.intro (fun g => ?_) (fun g => ?_)
      · have := ge_n (k := l) rfl (by omega) (by omega) g
        have ei : i = l := by omega
        subst ei
        have e1 : mA 1 0 + nI i = nI (b0 + i) := by rw [eb0, nI_add]
        refine cQ_ch (ND (mA 1) (lsI (mA 1) k p i).1 k (nI (b0 + i)) (lsI (mA 1) k p i).2) (c' := c) h ?_ hR (sm_w hS rfl) (fsm_w hF rfl) hCR (by rw [hS 9 rfl]; exact hR.2.2.2.2.2.2.2.1) (Aux_i hDI.1 hDI.2.2.2.1 hn12 hk8 ((KV_nd hk8).mpr hK) ((hF 54 rfl).trans h54) (fun q hq => by rw [h58']; exact h58 q hq))
        refine cif_t' g1 (cif_f' ?_ ?_)
        · rw [ex, e1]
          refine fun q => q.elim (fun q => ?_) (fun q => ?_)
          · exact (fa_of_lt q).2.1 (nI_le (b := 999999) (by omega) (by omega))
          · rw [hk] at q
            exact nI_ne0 hk0 (by omega) q
        · rw [ex, e1, hk, cl (by omega), cl (by omega), f13]
          rfl
      · have hlt := nge_n (k := l) rfl (by omega) (by omega) g
        refine ⟨s', t, u, A', F', ND (mA 1) (lsI (mA 1) k p i).1 k (nI (b0 + i)) (lsI (mA 1) k p i).2, n, k, 1, rfl, rfl, hDI, TXO_72 hC.2.1 (fun j hj => nd_72 hk8 hj), hCR, (KV_nd hk8).mpr hK, by omega, fun s2 A2 hS2 hK2 hr2 => ?_⟩
        have hr3 : ∀ j, j < k → A2 4 j = stp (mA 1) k (lsI (mA 1) k p i).1 j := fun j hj => by
          rw [hr2 j hj]
          show stp (ND (mA 1) (lsI (mA 1) k p i).1 k (nI (b0 + i)) (lsI (mA 1) k p i).2) k (nw (ND (mA 1) (lsI (mA 1) k p i).1 k (nI (b0 + i)) (lsI (mA 1) k p i).2)) j = _
          rw [stp_nd hk8]
          exact stp_cg hI (fun t ht => nd_n ht) j hj
        refine ⟨s2, t, u, A2, fset F' 13 (F' 13 + nI 1), n, k, p, rfl, rfl, (hF 11 rfl).trans hF11, hn2, hn12, (hF 12 rfl).trans hF12, hk0, hk8, fun j hj => by rw [hr3 j hj]; exact stp_bd hn hn2 hn12 _ j hj, fun A3 hS3 h4 => ?_⟩
        have eZ : fset F' 13 (F' 13 + nI 1) 14 = (lsI (mA 1) k p i).2 := f14
        refine ⟨1 + (l - (i + 1)), by omega, rfl, Or.inr ⟨rfl, l, i + 1, s2, A3, _, ex, hl1, hl5, hbl, hk0, g1, hlt, rfl, by rw [← nI_1 i]; rfl, rfl, sm_tr hS (sm_tr (sm_w hS2 rfl) (sm_w hS3 rfl)), by rw [hS3 58 rfl, hS2 58 rfl, h58'], ?_, fun j hj => ?_, fsm_tr hF (fsm_tr (fsm_fset (q := 13) rfl) (fsm_fset (q := 14) rfl)), ?_, ?_⟩⟩
        · exact KV_cg ((KV_nd hk8).mp hK2) (fun t ht => hS3 (39 + t) (row8 (by omega) (by decide)))
        · show A3 4 j = (cif (rm (drO (dr1 (dr1 (lsI (mA 1) k p i).2))) 100 < p) (upd (stp (mA 1) k (lsI (mA 1) k p i).1) (sx k (lsI (mA 1) k p i).2) (rm (stp (mA 1) k (lsI (mA 1) k p i).1 (sx k (lsI (mA 1) k p i).2) + 1) (mA 1 1))) (stp (mA 1) k (lsI (mA 1) k p i).1)) j
          rw [h4, eZ]
          have hsx : sx k (lsI (mA 1) k p i).2 < k := by
            obtain ⟨j2, hj2, ej2⟩ := rm_b (dr1 (lsI (mA 1) k p i).2) hk0 (by omega)
            unfold sx
            rw [ej2, cl (by omega)]
            exact hj2
          by_cases q : rm (drO (dr1 (dr1 (lsI (mA 1) k p i).2))) 100 < p
          · rw [cif_t q, cif_t q, hr3 _ hsx, hn]
            exact upd_cg hr3 j hj
          · rw [cif_f q, cif_f q]
            exact hr3 j hj
        · show F' 13 + nI 1 = _
          rw [f13, nI_add]
          rfl
        · show dr1 (dr1 (fset F' 13 (F' 13 + nI 1) 14)) = _
          rw [eZ]
          rfl
