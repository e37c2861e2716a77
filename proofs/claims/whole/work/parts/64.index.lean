/-! ===== texts: where a sign is in a text of names ===== -/
def xbs (q : Nat) : Nat → Int32 := fun j => match q with
  | 5 => xb5.getD j 0
  | _ => xb6.getD j 0
def xbn (q : Nat) : Nat := match q with
  | 5 => 4
  | _ => 2
def sJ1_indexOfChar_4cfef : XS := fun as w post => ∃ (q : Nat) (c : Int32), as = [.retAddr q, .int c, .int 0, .int (nI (xbn q))] ∧ (q = 5 ∨ q = 6) ∧ (∀ i, i < xbn q → xbs q i = c.toInt8.toInt32 → (∀ j, j < i → ¬ xbs q j = c.toInt8.toInt32) → post (some (.int (nI i))) w) ∧ ((∀ j, j < xbn q → ¬ xbs q j = c.toInt8.toInt32) → post (some (.int (-1))) w)
set_option maxRecDepth 10000 in
set_option maxHeartbeats 1000000 in
theorem mJ1_indexOfChar_4cfef (d : Nat) (hd : 0 ≤ d) : xCT d yJ1_indexOfChar_4cfef cJ1_indexOfChar_4cfef 6 (some .int) sJ1_indexOfChar_4cfef := by
  refine xmet (tb := tJ1_indexOfChar_4cfef) (fl := fn0) (kc := kn0) (gs := g0) (cl := xlk []) (by decide) tJ1_indexOfChar_4cfef_ok fn0_ok kn0_ok g0_ok xg_nil ?_
  rintro L xs as w Qp ⟨q, c, rfl, hq, h1, h2⟩
  rcases hq with rfl | rfl
  · have hN : xbn 5 ≤ 4 := by decide
    refine ⟨Nat.le_of_ble_eq_true rfl, 400, xlk [(7, 6)], fun m pc ls st w' => pc = 7 ∧ st = [] ∧ w' = w ∧ ∃ i, i ≤ xbn 5 ∧ m = xbn 5 - i ∧ ls = [(0, .retAddr 5), (1, .int c), (2, .int 0), (3, .int (nI (xbn 5))), (4, .int c.toInt8.toInt32), (5, .int (nI i))] ∧ ∀ j, j < i → ¬ xbs 5 j = c.toInt8.toInt32, ?_, ?_⟩
    · exact ⟨xbn 5, rfl, rfl, rfl, 0, Nat.zero_le _, rfl, rfl, fun j hj => absurd hj (Nat.not_lt_zero _)⟩
    · rintro m pc m9 ls st w' hc ⟨rfl, rfl, rfl, i, hi, rfl, rfl, hb⟩
      refine And.intro (fun g => ?_) (fun g => ?_)
      · have := ge_n (k := xbn 5) rfl (by omega) (by omega) g
        exact h2 (fun j hj => hb j (by omega))
      · have hlt := nge_n (k := xbn 5) rfl (by omega) (by omega) g
        refine And.intro (show vp_in (nI i) (xbn 5) from vp_in_nI hlt (by omega)) ?_
        refine And.intro (fun g2 => ?_) (fun g2 => ?_)
        · have g2 : ¬ xbs 5 (nI i).toNatClampNeg = c.toInt8.toInt32 := g2
          rw [cl (by omega)] at g2
          refine ⟨xbn 5 - (i + 1), by omega, rfl, rfl, rfl, i + 1, hlt, rfl, by rw [← nI_1 i]; rfl, fun j hj => ?_⟩
          by_cases e : j = i
          · rw [e]
            exact g2
          · exact hb j (by omega)
        · have g2 : xbs 5 (nI i).toNatClampNeg = c.toInt8.toInt32 := Classical.byContradiction g2
          rw [cl (by omega)] at g2
          exact h1 i hlt g2 hb
  · have hN : xbn 6 ≤ 4 := by decide
    refine ⟨Nat.le_of_ble_eq_true rfl, 400, xlk [(7, 6)], fun m pc ls st w' => pc = 7 ∧ st = [] ∧ w' = w ∧ ∃ i, i ≤ xbn 6 ∧ m = xbn 6 - i ∧ ls = [(0, .retAddr 6), (1, .int c), (2, .int 0), (3, .int (nI (xbn 6))), (4, .int c.toInt8.toInt32), (5, .int (nI i))] ∧ ∀ j, j < i → ¬ xbs 6 j = c.toInt8.toInt32, ?_, ?_⟩
    · exact ⟨xbn 6, rfl, rfl, rfl, 0, Nat.zero_le _, rfl, rfl, fun j hj => absurd hj (Nat.not_lt_zero _)⟩
    · rintro m pc m9 ls st w' hc ⟨rfl, rfl, rfl, i, hi, rfl, rfl, hb⟩
      refine And.intro (fun g => ?_) (fun g => ?_)
      · have := ge_n (k := xbn 6) rfl (by omega) (by omega) g
        exact h2 (fun j hj => hb j (by omega))
      · have hlt := nge_n (k := xbn 6) rfl (by omega) (by omega) g
        refine And.intro (show vp_in (nI i) (xbn 6) from vp_in_nI hlt (by omega)) ?_
        refine And.intro (fun g2 => ?_) (fun g2 => ?_)
        · have g2 : ¬ xbs 6 (nI i).toNatClampNeg = c.toInt8.toInt32 := g2
          rw [cl (by omega)] at g2
          refine ⟨xbn 6 - (i + 1), by omega, rfl, rfl, rfl, i + 1, hlt, rfl, by rw [← nI_1 i]; rfl, fun j hj => ?_⟩
          by_cases e : j = i
          · rw [e]
            exact g2
          · exact hb j (by omega)
        · have g2 : xbs 6 (nI i).toNatClampNeg = c.toInt8.toInt32 := Classical.byContradiction g2
          rw [cl (by omega)] at g2
          exact h1 i hlt g2 hb
def sJ1_canEncode_9a6ad : XS := fun as w post => ∃ y : Nat, as = [.int (nI y)] ∧ y < 256 ∧ post (some (.int 1)) w
set_option maxRecDepth 10000 in
set_option maxHeartbeats 1000000 in
theorem mJ1_canEncode_9a6ad (d : Nat) (hd : 0 ≤ d) : xCT d yJ1_canEncode_9a6ad cJ1_canEncode_9a6ad 1 (some .boolean) sJ1_canEncode_9a6ad := by
  refine xmet0 (tb := tJ1_canEncode_9a6ad) (fl := fn0) (kc := kn0) (gs := g0) (cl := xlk []) 400 (by decide) tJ1_canEncode_9a6ad_ok fn0_ok kn0_ok g0_ok xg_nil ?_
  rintro L xs as w Qp ⟨y, rfl, hy, h⟩
  refine ⟨Nat.le_of_ble_eq_true rfl, ?_⟩
  refine And.intro (fun g => ?_) (fun g => ?_)
  · have g : nI y < 0 := g
    exact absurd (nI_pos' (by omega)) (fa_of_lt g).2.1
  · refine And.intro (fun g2 => ?_) (fun g2 => ?_)
    · have g2 : nI 255 < nI y := g2
      exact absurd (nI_le (a := y) (b := 255) (by omega) (by omega)) (fa_of_lt g2).2.1
    · exact ⟨rfl, h⟩
def sJ1_indexOf_4cfef : XS := fun as w post => ∃ (q y : Nat), as = [.retAddr q, .int (nI y), .int 0, .int (nI (xbn q))] ∧ y < 256 ∧ (q = 5 ∨ q = 6) ∧ (∀ i, i < xbn q → xbs q i = (nI y).toInt8.toInt32 → (∀ j, j < i → ¬ xbs q j = (nI y).toInt8.toInt32) → post (some (.int (nI i))) w) ∧ ((∀ j, j < xbn q → ¬ xbs q j = (nI y).toInt8.toInt32) → post (some (.int (-1))) w)
set_option maxRecDepth 10000 in
set_option maxHeartbeats 1000000 in
theorem mJ1_indexOf_4cfef (d : Nat) (hd : 1 ≤ d) : xCT d yJ1_indexOf_4cfef cJ1_indexOf_4cfef 4 (some .int) sJ1_indexOf_4cfef := by
  obtain ⟨d, rfl⟩ : ∃ e, d = e + 1 := ⟨d - 1, by omega⟩
  refine xmet0 (tb := tJ1_indexOf_4cfef) (fl := fn0) (kc := kn0) (gs := g0) (cl := xlk [(88, false, 1, sJ1_canEncode_9a6ad), (92, false, 2, xMax), (38, false, 2, xMin), (95, false, 4, sJ1_indexOfChar_4cfef)]) 400 (by decide) tJ1_indexOf_4cfef_ok fn0_ok kn0_ok g0_ok (xg_cons (k_J1_88 (mJ1_canEncode_9a6ad d (by omega))) (xg_cons (k_J1_92_max (xrm_ok d)) (xg_cons (k_J1_38_min (xrm_ok d)) (xg_cons (k_J1_95 (mJ1_indexOfChar_4cfef d (by omega))) xg_nil)))) ?_
  rintro L xs as w Qp ⟨q, y, rfl, hy, hq, h1, h2⟩
  rcases hq with rfl | rfl
  · refine ⟨Nat.le_of_ble_eq_true rfl, ?_⟩
    refine ⟨y, rfl, hy, ?_⟩
    refine br_t xc_ne1 ?_
    refine br_t (show (0 : Int32) < nI (xbn 5) by decide) ?_
    exact ⟨5, nI y, rfl, by decide, h1, h2⟩
  · refine ⟨Nat.le_of_ble_eq_true rfl, ?_⟩
    refine ⟨y, rfl, hy, ?_⟩
    refine br_t xc_ne1 ?_
    refine br_t (show (0 : Int32) < nI (xbn 6) by decide) ?_
    exact ⟨6, nI y, rfl, by decide, h1, h2⟩
def sJ0_isLatin1_aae02 : XS := fun as w post => ∃ q, as = [.retAddr q] ∧ (q = 3 ∨ q = 4) ∧ post (some (.int 1)) w
set_option maxRecDepth 10000 in
set_option maxHeartbeats 1000000 in
theorem mJ0_isLatin1_aae02 (d : Nat) (hd : 0 ≤ d) : xCT d yJ0_isLatin1_aae02 cJ0_isLatin1_aae02 1 (some .boolean) sJ0_isLatin1_aae02 := by
  refine xmet0 (tb := tJ0_isLatin1_aae02) (fl := fn0) (kc := kn0) (gs := gJ0) (cl := xlk []) 400 (by decide) tJ0_isLatin1_aae02_ok fn0_ok kn0_ok gJ0_ok xg_nil ?_
  rintro L xs as w Qp ⟨q, rfl, hq, h⟩
  rcases hq with rfl | rfl
  · refine ⟨Nat.le_of_ble_eq_true rfl, ?_⟩
    refine br_f (show ¬ (1 : Int32) = 0 by decide) ?_
    refine br_f (fun q => q rfl) ?_
    exact ⟨rfl, h⟩
  · refine ⟨Nat.le_of_ble_eq_true rfl, ?_⟩
    refine br_f (show ¬ (1 : Int32) = 0 by decide) ?_
    refine br_f (fun q => q rfl) ?_
    exact ⟨rfl, h⟩
def sJ0_coder_7d493 : XS := fun as w post => ∃ q, as = [.retAddr q] ∧ (q = 3 ∨ q = 4) ∧ post (some (.int 0)) w
set_option maxRecDepth 10000 in
set_option maxHeartbeats 1000000 in
theorem mJ0_coder_7d493 (d : Nat) (hd : 0 ≤ d) : xCT d yJ0_coder_7d493 cJ0_coder_7d493 1 (some .byte) sJ0_coder_7d493 := by
  refine xmet0 (tb := tJ0_coder_7d493) (fl := fn0) (kc := kn0) (gs := gJ0) (cl := xlk []) 400 (by decide) tJ0_coder_7d493_ok fn0_ok kn0_ok gJ0_ok xg_nil ?_
  rintro L xs as w Qp ⟨q, rfl, hq, h⟩
  rcases hq with rfl | rfl
  · refine ⟨Nat.le_of_ble_eq_true rfl, ?_⟩
    refine br_f (show ¬ (1 : Int32) = 0 by decide) ?_
    exact ⟨rfl, h⟩
  · refine ⟨Nat.le_of_ble_eq_true rfl, ?_⟩
    refine br_f (show ¬ (1 : Int32) = 0 by decide) ?_
    exact ⟨rfl, h⟩
def sJ0_length_8abf5 : XS := fun as w post => ∃ q, as = [.retAddr q] ∧ (q = 3 ∨ q = 4) ∧ post (some (.int (nI (xbn (q + 2))))) w
set_option maxRecDepth 10000 in
set_option maxHeartbeats 1000000 in
theorem mJ0_length_8abf5 (d : Nat) (hd : 1 ≤ d) : xCT d yJ0_length_8abf5 cJ0_length_8abf5 1 (some .int) sJ0_length_8abf5 := by
  obtain ⟨d, rfl⟩ : ∃ e, d = e + 1 := ⟨d - 1, by omega⟩
  refine xmet0 (tb := tJ0_length_8abf5) (fl := fn0) (kc := kn0) (gs := gJ0) (cl := xlk [(335, true, 1, xrcvS (sJ0_coder_7d493))]) 400 (by decide) tJ0_length_8abf5_ok fn0_ok kn0_ok gJ0_ok (xg_cons (k_J0_335 (mJ0_coder_7d493 d (by omega))) xg_nil) ?_
  rintro L xs as w Qp ⟨q, rfl, hq, h⟩
  rcases hq with rfl | rfl
  · refine ⟨Nat.le_of_ble_eq_true rfl, ?_⟩
    refine ⟨3, rfl, by decide, ?_⟩
    exact h
  · refine ⟨Nat.le_of_ble_eq_true rfl, ?_⟩
    refine ⟨4, rfl, by decide, ?_⟩
    exact h
def uN (u : Bool) : Nat := bif u then 1 else 0
def sJ0_indexOf_7cf53 : XS := fun as w post => ∃ (u : Bool) (y : Nat), as = [.retAddr (bif u then 4 else 3), .int (nI y), .int 0] ∧ y < 256 ∧ (nmi (uN u) (nI y) < 9 → post (some (.int (nI (nmi (uN u) (nI y))))) w) ∧ (¬ nmi (uN u) (nI y) < 9 → post (some (.int (-1))) w)
theorem b8 : ∀ y : Fin 256, ∀ t ∈ ([108, 115, 109, 107, 110] : List Int32), (t = (nI y.val).toInt8.toInt32 ↔ t = nI y.val) := by decide +kernel
theorem b8' {y : Nat} (hy : y < 256) {t : Int32} (ht : t ∈ ([108, 115, 109, 107, 110] : List Int32)) : t = (nI y).toInt8.toInt32 ↔ t = nI y := b8 ⟨y, hy⟩ t ht
set_option maxRecDepth 10000 in
set_option maxHeartbeats 1000000 in
theorem mJ0_indexOf_7cf53 (d : Nat) (hd : 2 ≤ d) : xCT d yJ0_indexOf_7cf53 cJ0_indexOf_7cf53 3 (some .int) sJ0_indexOf_7cf53 := by
  obtain ⟨d, rfl⟩ : ∃ e, d = e + 1 := ⟨d - 1, by omega⟩
  refine xmet0 (tb := tJ0_indexOf_7cf53) (fl := fn0) (kc := kn0) (gs := gJ0) (cl := xlk [(492, true, 1, xrcvS (sJ0_isLatin1_aae02)), (505, true, 1, xrcvS (sJ0_length_8abf5)), (637, false, 4, sJ1_indexOf_4cfef)]) 400 (by decide) tJ0_indexOf_7cf53_ok fn0_ok kn0_ok gJ0_ok (xg_cons (k_J0_492 (mJ0_isLatin1_aae02 d (by omega))) (xg_cons (k_J0_505 (mJ0_length_8abf5 d (by omega))) (xg_cons (k_J0_637 (mJ1_indexOf_4cfef d (by omega))) xg_nil))) ?_
  rintro L xs as w Qp ⟨u, y, rfl, hy, h1, h2⟩
  cases u
  · refine ⟨Nat.le_of_ble_eq_true rfl, ?_⟩
    refine ⟨3, rfl, by decide, ?_⟩
    refine br_f xc_eq1 ?_
    refine ⟨3, rfl, by decide, ?_⟩
    refine ⟨5, y, rfl, hy, by decide, fun i hi e _ => ?_, fun hb => ?_⟩
    · have hi : i < 4 := hi
      have hcase : i = 0 ∨ i = 1 ∨ i = 2 ∨ i = 3 := by omega
      rcases hcase with rfl | rfl | rfl | rfl
      · have ey : nI y = 108 := ((b8' hy (by decide)).mp e).symm
        have en : nmi (uN false) (nI y) = 0 := by
          rw [ey]
          unfold nmi
          rw [cif_f (by decide), cif_t rfl]
        have h9 := h1 (by rw [en]; decide)
        rw [en] at h9
        exact h9
      · have ey : nI y = 115 := ((b8' hy (by decide)).mp e).symm
        have en : nmi (uN false) (nI y) = 1 := by
          rw [ey]
          unfold nmi
          rw [cif_f (by decide), cif_f (by decide), cif_t rfl]
        have h9 := h1 (by rw [en]; decide)
        rw [en] at h9
        exact h9
      · have ey : nI y = 109 := ((b8' hy (by decide)).mp e).symm
        have en : nmi (uN false) (nI y) = 2 := by
          rw [ey]
          unfold nmi
          rw [cif_f (by decide), cif_f (by decide), cif_f (by decide), cif_t rfl]
        have h9 := h1 (by rw [en]; decide)
        rw [en] at h9
        exact h9
      · have ey : nI y = 107 := ((b8' hy (by decide)).mp e).symm
        have en : nmi (uN false) (nI y) = 3 := by
          rw [ey]
          unfold nmi
          rw [cif_f (by decide), cif_f (by decide), cif_f (by decide), cif_f (by decide), cif_t rfl]
        have h9 := h1 (by rw [en]; decide)
        rw [en] at h9
        exact h9
    · have en : nmi (uN false) (nI y) = 9 := by
        unfold nmi
        rw [cif_f (by decide), cif_f (fun e => hb 0 (by decide) ((b8' hy (by decide)).mpr e.symm)), cif_f (fun e => hb 1 (by decide) ((b8' hy (by decide)).mpr e.symm)), cif_f (fun e => hb 2 (by decide) ((b8' hy (by decide)).mpr e.symm)), cif_f (fun e => hb 3 (by decide) ((b8' hy (by decide)).mpr e.symm))]
      exact h2 (by rw [en]; decide)
  · refine ⟨Nat.le_of_ble_eq_true rfl, ?_⟩
    refine ⟨4, rfl, by decide, ?_⟩
    refine br_f xc_eq1 ?_
    refine ⟨4, rfl, by decide, ?_⟩
    refine ⟨6, y, rfl, hy, by decide, fun i hi e _ => ?_, fun hb => ?_⟩
    · have hi : i < 2 := hi
      have hcase : i = 0 ∨ i = 1 := by omega
      rcases hcase with rfl | rfl
      · have ey : nI y = 110 := ((b8' hy (by decide)).mp e).symm
        have en : nmi (uN true) (nI y) = 0 := by
          rw [ey]
          unfold nmi
          rw [cif_t (show uN true = 1 from rfl), cif_t rfl]
        have h9 := h1 (by rw [en]; decide)
        rw [en] at h9
        exact h9
      · have ey : nI y = 107 := ((b8' hy (by decide)).mp e).symm
        have en : nmi (uN true) (nI y) = 1 := by
          rw [ey]
          unfold nmi
          rw [cif_t (show uN true = 1 from rfl), cif_f (by decide), cif_t rfl]
        have h9 := h1 (by rw [en]; decide)
        rw [en] at h9
        exact h9
    · have en : nmi (uN true) (nI y) = 9 := by
        unfold nmi
        rw [cif_t (show uN true = 1 from rfl), cif_f (fun e => hb 0 (by decide) ((b8' hy (by decide)).mpr e.symm)), cif_f (fun e => hb 1 (by decide) ((b8' hy (by decide)).mpr e.symm))]
      exact h2 (by rw [en]; decide)
def sJ0_indexOf_0f7a4 : XS := fun as w post => ∃ (u : Bool) (y : Nat), as = [.retAddr (bif u then 4 else 3), .int (nI y)] ∧ y < 256 ∧ (nmi (uN u) (nI y) < 9 → post (some (.int (nI (nmi (uN u) (nI y))))) w) ∧ (¬ nmi (uN u) (nI y) < 9 → post (some (.int (-1))) w)
set_option maxRecDepth 10000 in
set_option maxHeartbeats 1000000 in
theorem mJ0_indexOf_0f7a4 (d : Nat) (hd : 3 ≤ d) : xCT d yJ0_indexOf_0f7a4 cJ0_indexOf_0f7a4 2 (some .int) sJ0_indexOf_0f7a4 := by
  obtain ⟨d, rfl⟩ : ∃ e, d = e + 1 := ⟨d - 1, by omega⟩
  refine xmet0 (tb := tJ0_indexOf_0f7a4) (fl := fn0) (kc := kn0) (gs := gJ0) (cl := xlk [(633, true, 3, xrcvS (sJ0_indexOf_7cf53))]) 400 (by decide) tJ0_indexOf_0f7a4_ok fn0_ok kn0_ok gJ0_ok (xg_cons (k_J0_633 (mJ0_indexOf_7cf53 d (by omega))) xg_nil) ?_
  rintro L xs as w Qp ⟨u, y, rfl, hy, h1, h2⟩
  cases u
  · refine ⟨Nat.le_of_ble_eq_true rfl, ?_⟩
    exact ⟨false, y, rfl, hy, h1, h2⟩
  · refine ⟨Nat.le_of_ble_eq_true rfl, ?_⟩
    exact ⟨true, y, rfl, hy, h1, h2⟩
