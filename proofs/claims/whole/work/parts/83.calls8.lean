/-! ===== the class's calls: images, texts ===== -/
theorem LH_cg {p p' : Nat → Int32} {z : Int32} {ps : List Int32} (h : LH p z ps) (hp : ∀ i, i < 50 → p' i = p i) : LH p' z ps := ⟨h.1, h.2.1, fun i hi => (hp i (by have := h.2.1; omega)).trans (h.2.2.1 i hi), h.2.2.2.1, h.2.2.2.2⟩
theorem CRcp {D D' : Nat → Int32} {A A' : XA} {F F' : Nat → Int32} {n k : Nat} (h : CR D A F) (hI : DI D n k) (hD : ∀ j, j < 250 → D' j = D j) (hs : ∀ i, i < 8 → A' 1 i = A 1 i ∧ A' 2 i = A 2 i ∧ A' 3 i = A 3 i ∧ A' 4 i = A 4 i ∧ A' 5 i = A 5 i ∧ A' 6 i = A 6 i ∧ A' 7 i = A 7 i) (h8 : ∀ j, j < 50 → A' 8 j = A 8 j) (h9 : ∀ j, j < 20 → A' 9 j = A 9 j) (h11 : ∀ j, j < 50 → A' 11 j = A 11 j) (h15 : ∀ j, j < 50 → A' 15 j = A 15 j) (f11 : F' 11 = F 11) (f12 : F' 12 = F 12) (f13 : F' 13 = F 13) (f14 : F' 14 = F 14) (f15 : F' 15 = F 15) (f16 : F' 16 = F 16) (f20 : F' 20 = F 20) (f21 : F' 21 = F 21) : CR D' A' F' := by
  have hb := DI_b hI
  obtain ⟨_, _, _, hk, hk8, _, _, ⟨a, ha, ea⟩, ⟨b, hb5, eb⟩, _⟩ := hI
  obtain ⟨g1, g2, g3, g4, g5, g6, g7, g8, g9, g10, g11⟩ := h
  have ut : ∀ v, v < 2 → tps D' v = tps D v := fun v hv => tps_cg (hD _ (by omega)) (hb v hv) (fun j hj => hD _ (by omega))
  refine ⟨by rw [f11, hD 1 (by omega)]; exact g1, by rw [f12, hD 2 (by omega)]; exact g2, by rw [f13, hD 0 (by omega)]; exact g3, by rw [f14, hD 3 (by omega)]; exact g4, by rw [f15, hD 4 (by omega)]; exact g5, by rw [f16, hD 5 (by omega)]; exact g6, fun i hi => ?_, fun j hj => ?_, fun j hj => ?_, by rw [f20, ut 0 (by omega)]; exact LH_cg g10 h11, by rw [f21, ut 1 (by omega)]; exact LH_cg g11 h15⟩
  · rw [hD 2 (by omega)] at hi
    have hi8 : i < 8 := by
      have := hi
      rw [hk, cl (by omega)] at this
      omega
    obtain ⟨a1, a2, a3, a4, a5, a6, a7⟩ := hs i hi8
    rw [a1, a2, a3, a4, a5, a6, a7, hD _ (by omega), hD _ (by omega), hD _ (by omega), hD _ (by omega), hD _ (by omega), hD _ (by omega), hD _ (by omega)]
    exact g7 i hi
  · rw [hD 4 (by omega)] at hj
    have hj50 : j < 50 := by
      have := hj
      rw [ea, cl (by omega)] at this
      omega
    rw [h8 j hj50, hD _ (by omega)]
    exact g8 j hj
  · rw [hD 5 (by omega)] at hj
    have hj20 : j < 20 := by
      have := hj
      rw [eb, cl (by omega)] at this
      omega
    rw [h9 j hj20, hD _ (by omega)]
    exact g9 j hj
theorem fit_cp {f g : Nat → Int32} {n : Nat} (hf : sb_Fit f) (hg : sb_Fit g) : sb_Fit (cpU f g n) := fun j => by
  unfold cpU
  by_cases q : j < n
  · rw [if_pos q]
    exact hf j
  · rw [if_neg q]
    exact hg j
def sX9_image : XS := fun as w post => ∃ (s t u : Bool) (A : XA) (F : Nat → Int32) (mA : XA) (mF : Nat → Int32) (c n k : Nat), as = [.ref 0] ∧ w = CW s t u A F ∧ CI mA mF n k ∧ Rel mA mF A F ∧ Aux (mA 1) A F c ∧ c < 2 ^ 28 ∧ cQ (qimage mA mF) c post
theorem cpl {f g : Nat → Int32} {j : Nat} (h : j < 250) : cp f g j = f j := if_pos h
set_option maxRecDepth 10000 in
set_option maxHeartbeats 1000000 in
theorem mX9_image (d : Nat) (hd : 3 ≤ d) : xCT d yX9_image cX9_image 1 (some .int) sX9_image := by
  obtain ⟨d, rfl⟩ : ∃ e, d = e + 1 := ⟨d - 1, by omega⟩
  refine xmet0 (tb := tX9_image) (fl := fX9) (kc := nX9) (gs := g0) (cl := xlk [(326, true, 2, xrcv 1 (sX1_copyFrom_W2))]) 400 (by decide) tX9_image_ok fX9_ok nX9_ok g0_ok (xg_cons (k_X9_326 (mX1_copyFrom_W2 d (by omega))) xg_nil) ?_
  rintro L xs as w Qp ⟨s, t, u, A, F, mA, mF, c, n, k, rfl, rfl, hC, hR, hX, hc, h⟩
  obtain ⟨hn, hn2, hn12, hk, hk8, hF11, hF12, hA, hKV, h54, h58⟩ := ctx hC hR hX
  refine ⟨Nat.le_of_ble_eq_true rfl, ?_⟩
  refine ⟨s, t, u, A, F, rfl, rfl, hR.2.2.2.2.2.2.2.1, fun A' F' hS hj h27 h28 h30 h34 hF f31 f32 f33 f34 f35 f36 f40 f41 => ?_⟩
  obtain ⟨r1, r2, r3, r4, r5, r6, r7, r8, r9⟩ := hR
  have e1 : F' 1 = F 1 := hF 1 rfl
  have hX9 : Aux (mA 1) A' (fset F' 1 (F' 1 + 1)) c := ⟨KV_cg hX.1 (fun t ht => hS (39 + t) (row8 (by have := hX.2.2.2; omega) (by decide))), (hF 54 rfl).trans h54, fun q hq => by rw [hS 58 rfl]; exact h58 q hq, hX.2.2.2⟩
  have h9 := h s t u A' (fset F' 1 (F' 1 + 1)) c (by omega) ⟨CRf (CRsm (CP := CP1) r1 hS (by decide)) (hF 11 rfl) (hF 12 rfl) (hF 13 rfl) (hF 14 rfl) (hF 15 rfl) (hF 16 rfl) (hF 20 rfl) (hF 21 rfl), Or.inr (CRcp (A' := adn CP19 A') (F' := fdn KF (fset F' 1 (F' 1 + 1))) r1 hC.1 (fun j hj => cpl hj) hj (fun j hj => by show A' 27 j = A 9 j; rw [h27, cpU_lt hj]) (fun j hj => by show A' 28 j = A 10 j; rw [h28, cpU_lt hj]) (fun j hj => by show A' 30 j = A 12 j; rw [h30, cpU_lt hj]) (fun j hj => by show A' 34 j = A 16 j; rw [h34, cpU_lt hj]) f31 f32 f33 f34 f35 f36 f40 f41), by show F' 1 + 1 = mF 2 + 1; rw [e1, r3], fun j a b => by rw [hS 82 rfl]; exact r4 j a b, fun x hx => by rw [hS 66 rfl, hS 67 rfl]; exact r5 x hx, fun x l hx hl => by rw [hS (69 + x) (by rcases h4' hx with rfl | rfl | rfl | rfl <;> rfl)]; exact r6 x l hx hl, ⟨by rw [hS 74 rfl]; exact r7.1, (hF 70 rfl).trans r7.2⟩, by rw [hS 9 rfl]; exact r8, by rw [h27]; exact fit_cp r8 r9⟩ hX9
  have h9 : Qp (some (.int (mF 2 + 1))) (CW s t u A' (fset F' 1 (F' 1 + 1))) := h9
  rw [← r3, ← e1] at h9
  exact h9
def sX9_restore : XS := fun as w post => ∃ (s t u : Bool) (A : XA) (F : Nat → Int32) (mA : XA) (mF : Nat → Int32) (c n k : Nat), as = [.ref 0] ∧ w = CW s t u A F ∧ CI mA mF n k ∧ Rel mA mF A F ∧ Aux (mA 1) A F c ∧ c < 2 ^ 28 ∧ cQ (qrestore mA mF) c post
set_option maxRecDepth 10000 in
set_option maxHeartbeats 1000000 in
theorem mX9_restore (d : Nat) (hd : 3 ≤ d) : xCT d yX9_restore cX9_restore 1 (some .int) sX9_restore := by
  obtain ⟨d, rfl⟩ : ∃ e, d = e + 1 := ⟨d - 1, by omega⟩
  refine xmet0 (tb := tX9_restore) (fl := fX9) (kc := nX9) (gs := g0) (cl := xlk [(86, true, 2, xrcv 9 (sX9_fail)), (326, true, 2, xrcv 1 (sX1_copyFrom_W1)), (102, true, 1, xrcv 7 (sX7_forgetAll_W))]) 400 (by decide) tX9_restore_ok fX9_ok nX9_ok g0_ok (xg_cons (k_X9_86 (mX9_fail d (by omega))) (xg_cons (k_X9_326 (mX1_copyFrom_W1 d (by omega))) (xg_cons (k_X9_102 (mX7_forgetAll_W d (by omega))) xg_nil))) ?_
  rintro L xs as w Qp ⟨s, t, u, A, F, mA, mF, c, n, k, rfl, rfl, hC, hR, hX, hc, h⟩
  obtain ⟨hn, hn2, hn12, hk, hk8, hF11, hF12, hA, hKV, h54, h58⟩ := ctx hC hR hX
  refine ⟨Nat.le_of_ble_eq_true rfl, ?_⟩
  refine And.intro (fun g => ?_) (fun g => ?_)
  · have g : ¬ F 1 = 0 := g
    have g : ¬ mF 2 = 0 := by rw [← hR.2.2.1]; exact g
    have hK := hR.2.1.resolve_left g
    obtain ⟨n', k', hI', hT0, hT1⟩ := hC.2.2.2.2.2.resolve_left g
    refine ⟨s, t, u, A, F, rfl, rfl, hR.2.2.2.2.2.2.2.2, fun A1 F1 hS1 hj h9 h10 h12 h16 hF f11 f12 f13 f14 f15 f16 f20 f21 => ?_⟩
    refine ⟨s, t, u, A1, F1, rfl, rfl, fun A2 hS2 hK2 => ?_⟩
    have e13 : F1 13 = mA 2 0 := f13.trans hK.2.2.1
    have hCR : CR (cp (mA 2) (mA 1)) (adn CP1 A2) F1 := CRcp (A' := adn CP1 A2) (F' := F1) hK hI' (fun j hj => cpl hj) (fun i hi => ⟨(congrFun (hS2 2 rfl) i).trans (hj i hi).1, (congrFun (hS2 3 rfl) i).trans (hj i hi).2.1, (congrFun (hS2 4 rfl) i).trans (hj i hi).2.2.1, (congrFun (hS2 5 rfl) i).trans (hj i hi).2.2.2.1, (congrFun (hS2 6 rfl) i).trans (hj i hi).2.2.2.2.1, (congrFun (hS2 7 rfl) i).trans (hj i hi).2.2.2.2.2.1, (congrFun (hS2 8 rfl) i).trans (hj i hi).2.2.2.2.2.2⟩) (fun j hj => by show A2 9 j = A 27 j; rw [hS2 9 rfl, h9, cpU_lt hj]) (fun j hj => by show A2 10 j = A 28 j; rw [hS2 10 rfl, h10, cpU_lt hj]) (fun j hj => by show A2 12 j = A 30 j; rw [hS2 12 rfl, h12, cpU_lt hj]) (fun j hj => by show A2 16 j = A 34 j; rw [hS2 16 rfl, h16, cpU_lt hj]) f11 f12 f13 f14 f15 f16 f20 f21
    refine cQ_ch (cp (mA 2) (mA 1)) (c' := c) h (cif_f' g (by rw [e13])) hR (sm_tr (sm_w hS1 rfl) (sm_w hS2 rfl)) (fsm_w hF rfl) hCR (by rw [hS2 9 rfl, h9]; exact fit_cp hR.2.2.2.2.2.2.2.2 hR.2.2.2.2.2.2.2.1) (Aux_i (n := n') (k := k') ((cpl (by omega)).trans hI'.1) ((cpl (by omega)).trans hI'.2.2.2.1) hI'.2.2.1 hI'.2.2.2.2.1 (KV_all hK2 hI'.2.2.1 hI'.2.2.2.2.1) ((hF 54 rfl).trans h54) (fun q hq => by rw [hS2 58 rfl, hS1 58 rfl]; exact h58 q hq))
  · have g : F 1 = 0 := Classical.byContradiction g
    refine ⟨s, t, u, A, F, 2, rfl, rfl, by decide, by decide, ?_⟩
    exact cQ_e h (cif_t' (by rw [← hR.2.2.1]; exact g) rfl) hR hX
theorem lo8 (w : BitVec 64) (s : Nat) (hs : s + 8 ≤ 64) (j : Nat) (hj : j < 8) : ((((((w >>> s).signExtend 32).signExtend 8).signExtend 32).signExtend 8).signExtend 32).getLsbD j = ((w.sshiftRight s)).getLsbD j := by
  have h1 : j < 32 := by omega
  have h3 : s + j < 64 := by omega
  rw [BitVec.getLsbD_signExtend, BitVec.getLsbD_signExtend, BitVec.getLsbD_signExtend, BitVec.getLsbD_signExtend, BitVec.getLsbD_signExtend, BitVec.getLsbD_ushiftRight, BitVec.getLsbD_sshiftRight]
  simp [hj, h1, h3, show j < 64 by omega]
theorem b255 {n j : Nat} (hn : 8 ≤ n) : (BitVec.ofNat n 255).getLsbD j = decide (j < 8) := by
  rw [BitVec.getLsbD_ofNat]
  by_cases q : j < 8
  · have : j = 0 ∨ j = 1 ∨ j = 2 ∨ j = 3 ∨ j = 4 ∨ j = 5 ∨ j = 6 ∨ j = 7 := by omega
    have h2 : (255 : Nat).testBit j = true := by rcases this with rfl | rfl | rfl | rfl | rfl | rfl | rfl | rfl <;> decide
    rw [h2]
    simp [q]
    omega
  · have h2 : (255 : Nat).testBit j = false := Nat.testBit_lt_two_pow (Nat.lt_of_lt_of_le (show 255 < 2 ^ 8 by decide) (Nat.pow_le_pow_right (by decide) (by omega)))
    rw [h2]
    simp [q]
theorem cby_lo {x : Int64} {i : Nat} (hi : i < 8) : vp_nar .byte (((x.toUInt64 >>> ((8 * nI i).toInt64.toUInt64 &&& Int64.toUInt64 63)).toInt64.toInt32).toInt8.toInt32) &&& 255 = byt x i := by
  rw [vp_nar_byte]
  unfold byt
  have ea : (((8 * nI i).toInt64.toUInt64 &&& Int64.toUInt64 63).toBitVec % 64).toNat = 8 * i := by rcases h8 hi with rfl | rfl | rfl | rfl | rfl | rfl | rfl | rfl <;> decide
  have eb : (((8 * nI i).toInt64 &&& 63).toBitVec.smod 64).toNat = 8 * i := by rcases h8 hi with rfl | rfl | rfl | rfl | rfl | rfl | rfl | rfl <;> decide
  apply Int32.toBitVec_inj.mp
  rw [Int32.toBitVec_and, Int8.toBitVec_toInt32, Int32.toBitVec_toInt8, Int8.toBitVec_toInt32, Int32.toBitVec_toInt8, Int64.toBitVec_toInt32, UInt64.toBitVec_toInt64, UInt64.toBitVec_shiftRight, Int64.toBitVec_toUInt64, Int64.toBitVec_toInt32, Int64.toBitVec_and, Int64.toBitVec_shiftRight, BitVec.ushiftRight_eq', BitVec.sshiftRight_eq', ea, eb]
  apply BitVec.eq_of_getLsbD_eq
  intro j hj
  rw [BitVec.getLsbD_and, BitVec.getLsbD_signExtend (v := 32) (x := x.toBitVec.sshiftRight (8 * i) &&& Int64.toBitVec 255)]
  have e1 : (Int32.toBitVec 255).getLsbD j = decide (j < 8) := b255 (n := 32) (by omega)
  have e2 : (Int64.toBitVec 255).getLsbD j = decide (j < 8) := b255 (n := 64) (by omega)
  rw [e1, BitVec.getLsbD_and, e2]
  by_cases q : j < 8
  · rw [lo8 _ _ (by omega) j q]
    simp [hj, show j < 64 by omega]
  · simp [q, show j < 64 by omega]
