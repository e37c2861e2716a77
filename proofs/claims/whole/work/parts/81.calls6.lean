/-! ===== the class's calls: sheets, tell, images ===== -/
theorem numv_cg {b b' : Nat → Int32} {n : Nat} (h : ∀ p, hr b n p = hr b' n p) : ∀ c p v, numv b n c p v = numv b' n c p v := by
  intro c
  induction c with
  | zero => exact fun p v => rfl
  | succ c ih =>
    intro p v
    unfold numv
    rw [ih, h]
theorem PP_cg {b b' : Nat → Int32} {n u : Nat} (h : ∀ p, hr b n p = hr b' n p) : ∀ f c p o, PP b n u f c p o = PP b' n u f c p o := by
  intro f
  induction f with
  | zero => exact fun c p o => rfl
  | succ f ih =>
    intro c p o
    unfold PP
    split <;> simp only [ih, h, numv_cg h]
theorem PR_cg {b b' : Nat → Int32} {n u : Nat} (h : ∀ j, j < n → b j = b' j) (c p o : Nat) : PR b n u c p o = PR b' n u c p o := PP_cg (fun p => by
  unfold hr
  by_cases q : p < n
  · rw [if_pos q, if_pos q, h p q]
  · rw [if_neg q, if_neg q]) 700 c p o
theorem tps_cg {D D' : Nat → Int32} {v : Nat} (h1 : D' (72 + v) = D (72 + v)) (h2 : (D (72 + v)).toNatClampNeg ≤ 50) (h3 : ∀ j, j < 50 → D' (96 + 50 * v + j) = D (96 + 50 * v + j)) : tps D' v = tps D v := by
  unfold tps
  rw [h1, PR_cg (b := fun j => D' (96 + 50 * v + j)) (b' := fun j => D (96 + 50 * v + j)) (fun j hj => h3 j (by omega))]
theorem CRg2 {D D' : Nat → Int32} {A A' : XA} {F F' : Nat → Int32} (h : CR D A F) (hb : ∀ v, v < 2 → (D (72 + v)).toNatClampNeg ≤ 50) (hD : ∀ v, v < 2 → D' (72 + v) = D (72 + v) ∧ ∀ j, j < 50 → D' (96 + 50 * v + j) = D (96 + 50 * v + j)) (f11 : F' 11 = D' 1) (f12 : F' 12 = D' 2) (f13 : F' 13 = D' 0) (f14 : F' 14 = D' 3) (f15 : F' 15 = D' 4) (f16 : F' 16 = D' 5) (f20 : F' 20 = F 20) (f21 : F' 21 = F 21) (a11 : A' 11 = A 11) (a15 : A' 15 = A 15) (hs : ∀ i, i < (D' 2).toNatClampNeg → A' 1 i = D' (8 + 8 * i + 0) ∧ A' 2 i = D' (8 + 8 * i + 1) ∧ A' 3 i = D' (8 + 8 * i + 2) ∧ A' 5 i = D' (8 + 8 * i + 3) ∧ A' 6 i = D' (8 + 8 * i + 4) ∧ A' 4 i = D' (8 + 8 * i + 5) ∧ A' 7 i = D' (8 + 8 * i + 6)) (ht : ∀ j, j < (D' 4).toNatClampNeg → A' 8 j &&& 255 = D' (196 + j)) (hw : ∀ j, j < (D' 5).toNatClampNeg → A' 9 j = D' (76 + j)) : CR D' A' F' := by
  have ut : ∀ v, v < 2 → tps D' v = tps D v := fun v hv => tps_cg (hD v hv).1 (hb v hv) (hD v hv).2
  obtain ⟨g1, g2, g3, g4, g5, g6, g7, g8, g9, g10, g11⟩ := h
  exact ⟨f11, f12, f13, f14, f15, f16, hs, ht, hw, by rw [a11, f20, ut 0 (by omega)]; exact g10, by rw [a15, f21, ut 1 (by omega)]; exact g11⟩
theorem DI_b {D : Nat → Int32} {n k : Nat} (h : DI D n k) : ∀ v, v < 2 → (D (72 + v)).toNatClampNeg ≤ 50 := by
  obtain ⟨_, _, _, _, _, _, _, _, _, ⟨a, ha, ea⟩, ⟨b, hb, eb⟩, _⟩ := h
  intro v hv
  have : v = 0 ∨ v = 1 := by omega
  rcases this with rfl | rfl
  · show (D 72).toNatClampNeg ≤ 50
    rw [ea, cl (by omega)]
    omega
  · show (D 73).toNatClampNeg ≤ 50
    rw [eb, cl (by omega)]
    omega
/-- adds are the same where nothing they read changed -/
theorem addsV_cg2 {d d' : Nat → Int32} (hb : (d 72).toNatClampNeg ≤ 50) (h1 : d' 72 = d 72) (h2 : ∀ j, j < 50 → d' (96 + j) = d (96 + j)) (l s m k : Int32) : addsV d' l s m k = addsV d l s m k := by
  unfold addsV
  rw [h1, PR_cg (b := fun j => d' (96 + j)) (b' := fun j => d (96 + j)) (fun j hj => h2 j (by omega))]
theorem KV_d2 {K : Nat → Nat → Int32} {D D' : Nat → Int32} {n k : Nat} (h : KV K D n k) (hb : (D 72).toNatClampNeg ≤ 50) (h72 : D' 72 = D 72) (h2 : ∀ j, j < 50 → D' (96 + j) = D (96 + j)) (h1 : D' 1 = D 1) (hs : ∀ i, i < k → D' (8 + 8 * i + 0) = D (8 + 8 * i + 0) ∧ D' (8 + 8 * i + 1) = D (8 + 8 * i + 1)) : KV K D' n k := fun i l s hi hl ht => by
  have e : nxt D' i (nI l) (nI s) = nxt D i (nI l) (nI s) := by
    unfold nxt vraw
    rw [h1, (hs i hi).1, (hs i hi).2, addsV_cg2 hb h72 h2]
  rw [e]
  exact h i l s hi hl ht
def sX9_tell : XS := fun as w post => ∃ (s t u : Bool) (A : XA) (F : Nat → Int32) (mA : XA) (mF : Nat → Int32) (c n k : Nat) (y : Int32), as = [.ref 0, .int y] ∧ w = CW s t u A F ∧ CI mA mF n k ∧ Rel mA mF A F ∧ Aux (mA 1) A F c ∧ c < 2 ^ 28 ∧ cQ (qtell y mA mF) c post
theorem cwset10 {s t u : Bool} {A : XA} {F f f' : Nat → Int32} {x x' : Int32} (h : f = f') (h2 : x = x') : List.set (List.set (CW s t u A F) 10 (.inl (0, 20, .inl f))) 1 (.inr (1, [.ref 2, .ref 3, .ref 4, .ref 5, .ref 6, .ref 7, .ref 8, .ref 9, .ref 10, .ref 11, .ref 15, .int (F 11), .int (F 12), .int (F 13), .int (F 14), .int (F 15), .int x])) = CW s t u (aset A 10 f') (fset F 16 x') := by
  subst h h2
  rfl
set_option maxRecDepth 10000 in
set_option maxHeartbeats 1000000 in
theorem mX9_tell (d : Nat) (hd : 1 ≤ d) : xCT d yX9_tell cX9_tell 2 (some .int) sX9_tell := by
  obtain ⟨d, rfl⟩ : ∃ e, d = e + 1 := ⟨d - 1, by omega⟩
  refine xmet0 (tb := tX9_tell) (fl := fX9) (kc := nX9) (gs := g0) (cl := xlk [(86, true, 2, xrcv 9 (sX9_fail))]) 400 (by decide) tX9_tell_ok fX9_ok nX9_ok g0_ok (xg_cons (k_X9_86 (mX9_fail d (by omega))) xg_nil) ?_
  rintro L xs as w Qp ⟨s, t, u, A, F, mA, mF, c, n, k, y, rfl, rfl, hC, hR, hX, hc, h⟩
  obtain ⟨hn, hn2, hn12, hk, hk8, hF11, hF12, hA, hKV, h54, h58⟩ := ctx hC hR hX
  refine ⟨Nat.le_of_ble_eq_true rfl, ?_⟩
  obtain ⟨_, _, _, _, _, _, _, _, ⟨w, hw, ew⟩, _⟩ := hC.1
  have e16 : F 16 = nI w := hR.1.2.2.2.2.2.1.trans ew
  refine And.intro (fun g => ?_) (fun g => ?_)
  · have g : F 16 < nI 20 := g
    have hw20 : w < 20 := by
      rw [e16, fa_lt, nI_toInt (by omega), nI_toInt (by omega)] at g
      omega
    refine And.intro (by show vp_in (F 16) 20; rw [e16]; exact vp_in_nI (by omega) (by decide)) ?_
    have u10 : upd (A 10) (F 16).toNatClampNeg y = upd (A 10) w y := by rw [e16, cl (by omega)]
    have ux : F 16 + 1 = nI (w + 1) := by rw [e16, nI_1]
    have uD : ∀ j, j ≠ 76 + w → j ≠ 5 → upd (upd (mA 1) (76 + w) y) 5 (nI (w + 1)) j = mA 1 j := fun j a b => (pk_un b).trans (pk_un a)
    have h9 := cQ_ch (s := s) (t := t) (u := u) (A' := aset A 10 (upd (A 10) w y)) (F' := fset F 16 (nI (w + 1))) (v := nI (w + 1)) (c' := c) (upd (upd (mA 1) (76 + w) y) 5 (nI (w + 1))) h (cif_f' (fun q => ?_) (by rw [ew, cl (by omega)])) hR (sm_aset rfl) (fsm_fset rfl) (CRg2 hR.1 (DI_b hC.1) (fun v hv => ⟨uD _ (by omega) (by omega), fun j hj => uD _ (by omega) (by omega)⟩) (hR.1.1.trans (uD _ (by omega) (by omega)).symm) (hR.1.2.1.trans (uD _ (by omega) (by omega)).symm) (hR.1.2.2.1.trans (uD _ (by omega) (by omega)).symm) (hR.1.2.2.2.1.trans (uD _ (by omega) (by omega)).symm) (hR.1.2.2.2.2.1.trans (uD _ (by omega) (by omega)).symm) pk_us.symm rfl rfl rfl rfl (fun j hj => ?_) (fun j hj => ?_) (fun j hj => ?_)) hR.2.2.2.2.2.2.2.1 (Aux_i ((uD _ (by omega) (by omega)).trans hn) ((uD _ (by omega) (by omega)).trans hk) hn12 hk8 (KV_d2 (KV_cg hKV (fun t ht => asN (by omega))) (DI_b hC.1 0 (by omega)) (uD _ (by omega) (by omega)) (fun j hj => uD _ (by omega) (by omega)) (uD _ (by omega) (by omega)) (fun j hj => ⟨uD _ (by omega) (by omega), uD _ (by omega) (by omega)⟩)) h54 h58)
    · rw [← cwset10 u10 ux, ← ux] at h9
      exact h9
    · rw [ew] at q
      have := nI_inj (b := 20) (by omega) (by omega) q
      omega
    · rw [uD 2 (by omega) (by omega)] at hj
      have hj2 := hj
      rw [hk, cl (by omega)] at hj2
      rw [uD _ (by omega) (by omega), uD _ (by omega) (by omega), uD _ (by omega) (by omega), uD _ (by omega) (by omega), uD _ (by omega) (by omega), uD _ (by omega) (by omega), uD _ (by omega) (by omega)]
      exact hR.1.2.2.2.2.2.2.1 j hj
    · rw [uD 4 (by omega) (by omega)] at hj
      rw [uD _ (by omega) (by omega)]
      exact hR.1.2.2.2.2.2.2.2.1 j hj
    · rw [pk_us, cl (by omega)] at hj
      show upd (A 10) w y j = upd (upd (mA 1) (76 + w) y) 5 (nI (w + 1)) (76 + j)
      rw [pk_un (show 76 + j ≠ 5 by omega)]
      by_cases q : j = w
      · rw [q, pk_us, pk_us]
      · rw [pk_un q, pk_un (show 76 + j ≠ 76 + w by omega)]
        exact hR.1.2.2.2.2.2.2.2.2.1 j (by rw [ew, cl (by omega)]; omega)
  · have g : ¬ F 16 < nI 20 := g
    have ew20 : w = 20 := by
      rw [e16, fa_lt, nI_toInt (by omega), nI_toInt (by omega)] at g
      omega
    refine ⟨s, t, u, A, F, 4, rfl, rfl, by decide, by decide, ?_⟩
    exact cQ_e h (cif_t' (by rw [ew, ew20]; rfl) rfl) hR hX
theorem cQ_sh {q : XR} {c : Nat} {post : Option Value → XW → Prop} {mA mA' : XA} {mF : Nat → Int32} {s t u : Bool} {A A' : XA} {F : Nat → Int32} {v : Int32} (h : cQ q c post) (hq : q = (v, mA', mF)) (hR : Rel mA mF A F) (hX : Aux (mA 1) A F c) (hS : sm [66, 67, 69, 70, 71, 72] A' A) (e1 : mA' 1 = mA 1) (e2 : mA' 2 = mA 2) (e3 : mA' 3 = mA 3) (e14 : mA' 14 = mA 14) (h5 : ∀ h, h < 4 → A' 66 h = mA' 15 h ∧ A' 67 h = mA' 16 h) (h6 : ∀ h i, h < 4 → i < 40 → A' (69 + h) i = mA' 17 (40 * h + i)) : post (some (.int v)) (CW s t u A' F) := by
  subst hq
  obtain ⟨g1, g2, g3, g4, g5, g6, g7, g8, g9⟩ := hR
  refine h s t u A' F c (by omega) ⟨?_, ?_, g3, fun j a b => ?_, h5, h6, ⟨?_, g7.2⟩, ?_, ?_⟩ ?_
  · show CR (mA' 1) _ _
    rw [e1]
    exact CRsm (CP := CP1) g1 hS (by decide)
  · show mF 2 = 0 ∨ CR (mA' 2) _ _
    rw [e2]
    exact g2.imp id (fun q => CRsm (CP := CP19) q hS (by decide))
  · show A' 82 j = mA' 3 j
    rw [hS 82 rfl, e3]
    exact g4 j a b
  · show A' 74 = mA' 14
    rw [hS 74 rfl, e14]
    exact g7.1
  · rw [hS 9 rfl]
    exact g8
  · rw [hS 27 rfl]
    exact g9
  · show Aux (mA' 1) A' F c
    rw [e1]
    exact ⟨KV_cg hX.1 (fun t ht => hS (39 + t) (row8 (by have := hX.2.2.2; omega) (by decide))), hX.2.1, fun q hq => by rw [hS 58 rfl]; exact hX.2.2.1 q hq, hX.2.2.2⟩
def sX9_put : XS := fun as w post => ∃ (s t u : Bool) (A : XA) (F : Nat → Int32) (mA : XA) (mF : Nat → Int32) (c n k : Nat) (x y z : Int32), as = [.ref 0, .int x, .int y, .int z] ∧ w = CW s t u A F ∧ CI mA mF n k ∧ Rel mA mF A F ∧ Aux (mA 1) A F c ∧ c < 2 ^ 28 ∧ cQ (qput x y z mA mF) c post
set_option maxRecDepth 10000 in
set_option maxHeartbeats 1000000 in
theorem mX9_put (d : Nat) (hd : 2 ≤ d) : xCT d yX9_put cX9_put 4 (some .int) sX9_put := by
  obtain ⟨d, rfl⟩ : ∃ e, d = e + 1 := ⟨d - 1, by omega⟩
  refine xmet0 (tb := tX9_put) (fl := fX9) (kc := nX9) (gs := g0) (cl := xlk [(145, false, 1, sX9_isSheet), (86, true, 2, xrcv 9 (sX9_fail)), (148, true, 2, xrcv 6 (sX6_isMissing_W)), (151, true, 2, xrcv 6 (sX6_size_W)), (82, false, 3, sX9_within), (313, true, 4, xrcv 6 (sX6_write_W))]) 400 (by decide) tX9_put_ok fX9_ok nX9_ok g0_ok (xg_cons (k_X9_145 (mX9_isSheet d (by omega))) (xg_cons (k_X9_86 (mX9_fail d (by omega))) (xg_cons (k_X9_148 (mX6_isMissing_W d (by omega))) (xg_cons (k_X9_151 (mX6_size_W d (by omega))) (xg_cons (k_X9_82 (mX9_within d (by omega))) (xg_cons (k_X9_313 (mX6_write_W d (by omega))) xg_nil)))))) ?_
  rintro L xs as w Qp ⟨s, t, u, A, F, mA, mF, c, n, k, x, y, z, rfl, rfl, hC, hR, hX, hc, h⟩
  obtain ⟨hn, hn2, hn12, hk, hk8, hF11, hF12, hA, hKV, h54, h58⟩ := ctx hC hR hX
  refine ⟨Nat.le_of_ble_eq_true rfl, ?_⟩
  refine ⟨x, rfl, fun i hi e => ?_, fun g => ?_⟩
  · subst e
    refine br_t xc_ne1 ?_
    have ei : (nI i).toNatClampNeg = i := cl (by omega)
    obtain ⟨e66, e67⟩ := hR.2.2.2.2.1 i hi
    obtain ⟨z0, hz0, ez0⟩ := hC.2.2.2.1 i hi
    refine ⟨s, t, u, A, F, i, rfl, rfl, hi, fun g => ?_, fun g => ?_⟩
    · refine br_f xc_eq1 ?_
      refine ⟨s, t, u, A, F, 2, rfl, rfl, by decide, by decide, ?_⟩
      exact cQ_e h (cif_t' (isH_i hi) (cif_t' (by rw [ei, ← e66]; exact g) rfl)) hR hX
    · refine br_t xc_eq0 ?_
      have nm : ¬ mA 15 (nI i).toNatClampNeg = 0 := by rw [ei, ← e66]; exact g
      refine ⟨s, t, u, A, F, i, rfl, rfl, hi, fun v hv => ?_⟩
      have ev : v = mA 16 (nI i).toNatClampNeg := by rw [hv, ei, e67]
      refine ⟨y, 0, v - 1, rfl, fun g1 g2 => ?_, fun g2 => ?_⟩
      · refine br_t xc_ne1 ?_
        have g2' : y ≤ nI z0 - nI 1 := by
          rw [hv, e67, ez0] at g2
          exact g2
        have hz1 : 1 ≤ z0 := by
          refine Classical.byContradiction (fun q => ?_)
          have : z0 = 0 := by omega
          rw [this] at g2'
          rw [fa_le] at g1 g2'
          have a : y.toInt ≤ -1 := g2'
          have b : (0 : Int) ≤ y.toInt := g1
          omega
        rw [pk_sub hz1] at g2'
        obtain ⟨j, hj, ej⟩ := rg (c := z0 - 1) (by omega) g1 g2'
        subst ej
        have ejj : (nI j).toNatClampNeg = j := cl (by omega)
        refine ⟨s, t, u, A, F, i, j, z, rfl, rfl, hi, by omega, fun A' hS ho hh => ?_⟩
        refine cQ_sh (mA' := aset mA 17 (upd (mA 17) (40 * i + j) (low (mA 15 i) z))) h (cif_t' (isH_i hi) (cif_f' nm (cif_t' ⟨g1, by rw [← ev]; exact g2⟩ (by rw [ei, ejj]; rfl)))) hR hX (sm_w hS rfl) rfl rfl rfl rfl (fun x hx => by rw [hS 66 rfl, hS 67 rfl]; exact hR.2.2.2.2.1 x hx) (fun x l hx hl => ?_)
        show A' (69 + x) l = upd (mA 17) (40 * i + j) (low (mA 15 i) z) (40 * x + l)
        by_cases q : x = i
        · subst q
          rw [hh, e66]
          by_cases q2 : l = j
          · subst q2
            rw [pk_us, pk_us]
          · rw [pk_un q2, pk_un (by omega)]
            exact hR.2.2.2.2.2.1 x l hx hl
        · rw [ho x hx q, pk_un (by omega)]
          exact hR.2.2.2.2.2.1 x l hx hl
      · refine br_f xc_ne0 ?_
        refine ⟨s, t, u, A, F, 1, rfl, rfl, by decide, by decide, ?_⟩
        exact cQ_e h (cif_t' (isH_i hi) (cif_f' nm (cif_f' (by rw [← ev]; exact g2) rfl))) hR hX
  · refine br_f xc_ne0 ?_
    refine ⟨s, t, u, A, F, 1, rfl, rfl, by decide, by decide, ?_⟩
    exact cQ_e h (cif_f' (isH_n g) rfl) hR hX
def sX9_sheet : XS := fun as w post => ∃ (s t u : Bool) (A : XA) (F : Nat → Int32) (mA : XA) (mF : Nat → Int32) (c n k : Nat) (x b z : Int32), as = [.ref 0, .int x, .int b, .int z] ∧ w = CW s t u A F ∧ CI mA mF n k ∧ Rel mA mF A F ∧ Aux (mA 1) A F c ∧ c < 2 ^ 28 ∧ cQ (qsheet x b z mA mF) c post
set_option maxRecDepth 10000 in
set_option maxHeartbeats 1000000 in
theorem mX9_sheet (d : Nat) (hd : 2 ≤ d) : xCT d yX9_sheet cX9_sheet 4 (some .int) sX9_sheet := by
  obtain ⟨d, rfl⟩ : ∃ e, d = e + 1 := ⟨d - 1, by omega⟩
  refine xmet (tb := tX9_sheet) (fl := fX9) (kc := nX9) (gs := g0) (cl := xlk [(145, false, 1, sX9_isSheet), (86, true, 2, xrcv 9 (sX9_fail)), (309, true, 4, xrcv 6 (sX6_lay_W))]) (by decide) tX9_sheet_ok fX9_ok nX9_ok g0_ok (xg_cons (k_X9_145 (mX9_isSheet d (by omega))) (xg_cons (k_X9_86 (mX9_fail d (by omega))) (xg_cons (k_X9_309 (mX6_lay_W d (by omega))) xg_nil))) ?_
  rintro L xs as w Qp ⟨s, t, u, A, F, mA, mF, c, n, k, x, b, z, rfl, rfl, hC, hR, hX, hc, h⟩
  obtain ⟨hn, hn2, hn12, hk, hk8, hF11, hF12, hA, hKV, h54, h58⟩ := ctx hC hR hX
  have laid : ∀ i, i < 4 → x = nI i → isB b → ¬ (¬ b = 0 ∧ z < 0) → ¬ (¬ b = 0 ∧ 40 < z) → ∀ A' y, y = cif (b = 0) 0 z → sm [66, 67, 69, 70, 71, 72] A' A → A' 66 = upd (A 66) i b → A' 67 = upd (A 67) i y → (∀ o, o < 4 → o ≠ i → A' (69 + o) = A (69 + o)) → (∀ l, l < 40 → A' (69 + i) l = 0) → Qp (some (.int 1)) (CW s t u A' F) := by
    intro i hi e hb g1 g2 A' y ey hS h66 h67 ho hz
    subst e
    have ei : (nI i).toNatClampNeg = i := cl (by omega)
    refine cQ_sh (mA' := aset (aset (aset mA 15 (upd (mA 15) i b)) 16 (upd (mA 16) i (cif (b = 0) 0 z))) 17 (fun j => if 40 * i ≤ j ∧ j < 40 * i + 40 then 0 else mA 17 j)) h (cif_t' ⟨isH_i hi, hb⟩ (cif_f' g1 (cif_f' g2 (by rw [ei])))) hR hX hS rfl rfl rfl rfl (fun x hx => ?_) (fun x l hx hl => ?_)
    · show A' 66 x = upd (mA 15) i b x ∧ A' 67 x = upd (mA 16) i (cif (b = 0) 0 z) x
      obtain ⟨e66, e67⟩ := hR.2.2.2.2.1 x hx
      rw [h66, h67, ey]
      by_cases q : x = i
      · subst q
        rw [pk_us, pk_us, pk_us, pk_us]
        exact ⟨rfl, rfl⟩
      · rw [pk_un q, pk_un q, pk_un q, pk_un q]
        exact ⟨e66, e67⟩
    · show A' (69 + x) l = (if 40 * i ≤ 40 * x + l ∧ 40 * x + l < 40 * i + 40 then 0 else mA 17 (40 * x + l))
      by_cases q : x = i
      · subst q
        rw [hz l hl, if_pos ⟨by omega, by omega⟩]
      · rw [ho x hx q, if_neg (fun q2 => by omega)]
        exact hR.2.2.2.2.2.1 x l hx hl
  refine ⟨Nat.le_of_ble_eq_true rfl, 400, xlk [(29, 1), (35, 4), (65, 4)], fun m pc ls st w => st = [] ∧ w = CW s t u A F ∧ ((pc = 29 ∧ m = 0 ∧ ls = [(0, .ref 0)] ∧ ¬ (isH x ∧ isB b)) ∨ (pc = 35 ∧ m = 2 ∧ ls = [(0, .ref 0), (1, .int x), (2, .int b), (3, .int z)] ∧ ∃ i, i < 4 ∧ x = nI i ∧ isB b) ∨ (pc = 65 ∧ m = 1 ∧ ls = [(0, .ref 0), (1, .int x), (2, .int b), (3, .int z)] ∧ ∃ i, i < 4 ∧ x = nI i ∧ isB b ∧ ¬ (¬ b = 0 ∧ z < 0) ∧ ¬ (¬ b = 0 ∧ 40 < z))), ?_, ?_⟩
  · refine ⟨x, rfl, fun i hi e => ?_, fun g => ?_⟩
    · refine br_f xc_eq1 ?_
      have ok : isB b → ∃ n : Nat, ([] : List Value) = [] ∧ CW s t u A F = CW s t u A F ∧ ((35 = 29 ∧ n = 0 ∧ [(0, Value.ref 0), (1, .int x), (2, .int b), (3, .int z)] = [(0, .ref 0)] ∧ ¬ (isH x ∧ isB b)) ∨ (35 = 35 ∧ n = 2 ∧ [(0, Value.ref 0), (1, .int x), (2, .int b), (3, .int z)] = [(0, .ref 0), (1, .int x), (2, .int b), (3, .int z)] ∧ ∃ i, i < 4 ∧ x = nI i ∧ isB b) ∨ (35 = 65 ∧ n = 1 ∧ [(0, Value.ref 0), (1, .int x), (2, .int b), (3, .int z)] = [(0, .ref 0), (1, .int x), (2, .int b), (3, .int z)] ∧ ∃ i, i < 4 ∧ x = nI i ∧ isB b ∧ ¬ (¬ b = 0 ∧ z < 0) ∧ ¬ (¬ b = 0 ∧ 40 < z))) := fun q => ⟨2, rfl, rfl, Or.inr (Or.inl ⟨rfl, rfl, rfl, i, hi, e, q⟩)⟩
      refine And.intro (fun g0 => ?_) (fun g0 => ?_)
      · exact ok (Or.inl g0)
      · refine And.intro (fun g1 => ?_) (fun g1 => ?_)
        · exact ok (Or.inr (Or.inl g1))
        · refine And.intro (fun g2 => ?_) (fun g2 => ?_)
          · exact ok (Or.inr (Or.inr (Or.inl g2)))
          · refine And.intro (fun g3 => ?_) (fun g3 => ?_)
            · exact ok (Or.inr (Or.inr (Or.inr g3)))
            · exact ⟨0, rfl, rfl, Or.inl ⟨rfl, rfl, rfl, fun q => q.2.elim g0 (fun q => q.elim g1 (fun q => q.elim g2 g3))⟩⟩
    · refine br_t xc_eq0 ?_
      exact ⟨0, rfl, rfl, Or.inl ⟨rfl, rfl, rfl, fun q => isH_n g q.1⟩⟩
  · rintro m pc m9 ls st w hc9 ⟨rfl, rfl, ⟨rfl, rfl, rfl, g⟩ | ⟨rfl, rfl, rfl, i, hi, e, hb⟩ | ⟨rfl, rfl, rfl, i, hi, e, hb, n1, n2⟩⟩
    · refine ⟨s, t, u, A, F, 1, rfl, rfl, by decide, by decide, ?_⟩
      exact cQ_e h (cif_f' g rfl) hR hX
    · have hH : isH x := by rw [e]; exact isH_i hi
      refine And.intro (fun g0 => ?_) (fun g0 => ?_)
      · have g0 : b = 0 := g0
        refine br_t g0 ?_
        exact ⟨1, by omega, rfl, rfl, Or.inr (Or.inr ⟨rfl, rfl, rfl, i, hi, e, hb, fun q => q.1 g0, fun q => q.1 g0⟩)⟩
      · have g0 : ¬ b = 0 := g0
        refine And.intro (fun g1 => ?_) (fun g1 => ?_)
        · have g1 : 0 ≤ z := g1
          refine br_f g0 ?_
          refine And.intro (fun g2 => ?_) (fun g2 => ?_)
          · have g2 : z ≤ 40 := g2
            exact ⟨1, by omega, rfl, rfl, Or.inr (Or.inr ⟨rfl, rfl, rfl, i, hi, e, hb, fun q => (fa_of_lt q.2).2.1 g1, fun q => (fa_of_lt q.2).2.1 g2⟩)⟩
          · have g2 : ¬ z ≤ 40 := g2
            refine ⟨s, t, u, A, F, 1, rfl, rfl, by decide, by decide, ?_⟩
            exact cQ_e h (cif_t' ⟨hH, hb⟩ (cif_f' (fun q => (fa_of_lt q.2).2.1 g1) (cif_t' ⟨g0, fa_of_nle g2⟩ rfl))) hR hX
        · have g1 : ¬ 0 ≤ z := g1
          refine ⟨s, t, u, A, F, 3, rfl, rfl, by decide, by decide, ?_⟩
          exact cQ_e h (cif_t' ⟨hH, hb⟩ (cif_t' ⟨g0, fa_of_nle g1⟩ rfl)) hR hX
    · subst e
      refine And.intro (fun g0 => ?_) (fun g0 => ?_)
      · have g0 : ¬ b = 0 := g0
        refine ⟨s, t, u, A, F, i, b, z, rfl, rfl, hi, fun A' hS h66 h67 ho hz => ?_⟩
        exact laid i hi rfl hb n1 n2 A' z (cif_f g0).symm hS h66 h67 ho hz
      · have g0 : b = 0 := Classical.byContradiction g0
        refine ⟨s, t, u, A, F, i, b, 0, rfl, rfl, hi, fun A' hS h66 h67 ho hz => ?_⟩
        exact laid i hi rfl hb n1 n2 A' 0 (cif_t g0).symm hS h66 h67 ho hz
