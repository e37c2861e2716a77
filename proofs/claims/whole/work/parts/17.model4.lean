/-! ===== the reference: sheets, images, what is told ===== -/
def SI (A : XA) : Prop := ∀ i, i < 4 → bd (A 16 i) 41
theorem came_stop {f : Nat → Int32} {n : Int32} {p c : Nat} (h : came f n p c = c) (hs : ¬ (0 ≤ f (p + c) ∧ f (p + c) ≤ n - 1)) : ∀ m, c ≤ m → came f n p m = c := by
  intro m hm
  induction m with
  | zero =>
    rw [show c = 0 by omega]
    rfl
  | succ m ih =>
    rcases Nat.lt_or_ge m c with q | q
    · rw [show m + 1 = c by omega]
      exact h
    · have h2 := ih q
      unfold came
      rw [cif_f, h2]
      rintro ⟨a, b⟩
      rw [h2] at a
      rw [← a] at b
      exact hs b
theorem came_go {f : Nat → Int32} {n : Int32} {p c : Nat} (h : came f n p c = c) (hs : 0 ≤ f (p + c) ∧ f (p + c) ≤ n - 1) : came f n p (c + 1) = c + 1 := by
  unfold came
  rw [cif_t ⟨h, hs⟩]
theorem begD_0 (d f : Nat → Int32) (p : Nat) : begD d f p 0 = d := by
  funext j
  unfold begD
  rw [if_neg (by omega)]
theorem begD_s (d f : Nat → Int32) (p c : Nat) : upd (begD d f p c) (8 + 8 * c + 2) (f (p + c)) = begD d f p (c + 1) := by
  funext j
  by_cases h : j = 8 + 8 * c + 2
  · subst h
    rw [pk_us]
    unfold begD
    have e1 : (8 + 8 * c + 2 - 8) / 8 = c := by omega
    rw [if_pos (by omega), e1]
  · rw [pk_un h]
    unfold begD
    by_cases h2 : 8 ≤ j ∧ (j - 8) / 8 < c ∧ (j - 8) % 8 = 2
    · rw [if_pos h2, if_pos (by omega)]
    · rw [if_neg h2, if_neg (by omega)]
theorem begD_at {d f : Nat → Int32} {p c j : Nat} (h : j < 8) : begD d f p c j = d j := by
  unfold begD
  rw [if_neg (by omega)]
theorem ix40 (i c : Nat) : (40 : Int32) * nI i + nI c = nI (40 * i + c) := by rw [show (40 : Int32) = nI 40 from rfl, pk_mul, nI_add]
def sX10_begin : XS := fun as w post => ∃ (A : XA) (F : Nat → Int32) (s : Int32) (n k : Nat), as = [.ref 0, .int s] ∧ w = LM A F ∧ DI (A 1) n k ∧ SI A ∧ sQ (qbegin s A F) post
set_option maxRecDepth 10000 in
set_option maxHeartbeats 1000000 in
theorem mX10_begin (d : Nat) (hd : 2 ≤ d) : xCT d yX10_begin cX10_begin 3 (some .int) sX10_begin := by
  obtain ⟨d, rfl⟩ : ∃ e, d = e + 1 := ⟨d - 1, by omega⟩
  refine xmet (tb := tX10_begin) (fl := fX10) (kc := nX10) (gs := g0) (cl := xlk [(175, false, 1, sX10_isSheet), (128, true, 2, xrcv 10 (sX10_finds)), (65, false, 3, sX10_in), (152, true, 4, xrcv 10 (sX10_becomes))]) (by decide) tX10_begin_ok fX10_ok nX10_ok g0_ok (xg_cons (k_X10_175 (mX10_isSheet d (by omega))) (xg_cons (k_X10_128 (mX10_finds d (by omega))) (xg_cons (k_X10_65 (mX10_in d (by omega))) (xg_cons (k_X10_152 (mX10_becomes d (by omega))) xg_nil)))) ?_
  rintro L xs as w Qp ⟨A, F, s, n, k, rfl, rfl, ⟨hn, hn2, hn12, hk, hk8, -⟩, hSI, h⟩
  have hK : (A 1 2).toNatClampNeg = k := by rw [hk]; exact nI_clamp (by omega)
  refine ⟨Nat.le_of_ble_eq_true rfl, 400, xlk [(30, 3)], fun m pc ls st w => pc = 30 ∧ ∃ i z c, i < 4 ∧ s = nI i ∧ ¬ A 15 i = 0 ∧ A 16 i = nI z ∧ z < 41 ∧ c ≤ min z k ∧ came (A 17) (A 1 1) (40 * i) c = c ∧ m = 50 - c ∧ ls = [(0, .ref 0), (1, .int s), (2, .int (nI c))] ∧ st = [] ∧ w = LM (aset A 1 (begD (A 1) (A 17) (40 * i) c)) F, ?_, ?_⟩
  · refine ⟨s, rfl, fun i hi es => ?_, fun g => ?_⟩
    · subst es
      refine br_t xc_ne1 ?_
      have hin : vp_in (nI i) 4 := vp_in_nI hi (by decide)
      refine And.intro hin ?_
      refine And.intro (fun g => ?_) (fun g => ?_)
      · have g : ¬ A 15 (nI i).toNatClampNeg = 0 := g
        rw [cl (by omega)] at g
        obtain ⟨z, hz, ez⟩ := hSI i hi
        refine ⟨50, rfl, i, z, 0, hi, rfl, g, ez, hz, Nat.zero_le _, rfl, rfl, rfl, rfl, ?_⟩
        rw [begD_0, aset_eta]
      · have g : A 15 (nI i).toNatClampNeg = 0 := Classical.not_not.mp g
        refine ⟨A, F, 2, rfl, rfl, by decide, ?_⟩
        exact sQ_e h (cif_t' (isH_i hi) (cif_t' g rfl))
    · refine br_f xc_ne0 ?_
      refine ⟨A, F, 1, rfl, rfl, by decide, ?_⟩
      exact sQ_e h (cif_f' (isH_n g) rfl)
  · rintro m pc m9 ls st w hc ⟨rfl, i, z, c, hi, rfl, g0, ez, hz, hcm, hca, rfl, rfl, rfl, rfl⟩
    have hin : vp_in (nI i) 4 := vp_in_nI hi (by decide)
    have ecl : (nI i).toNatClampNeg = i := cl (by omega)
    have fin : came (A 17) (A 1 1) (40 * i) (min z k) = c → Qp (some (.int (nI c))) (LM (aset A 1 (begD (A 1) (A 17) (40 * i) c)) F) := by
      intro e
      refine sQ_e h (cif_t' (isH_i hi) (cif_f' (by rw [ecl]; exact g0) ?_))
      rw [ecl, hK, ez, cl (by omega), e]
    refine And.intro hin ?_
    refine And.intro (fun g => ?_) (fun g => ?_)
    · have g : A 16 (nI i).toNatClampNeg ≤ nI c := g
      rw [ecl] at g
      have := ge_n ez (by omega) (by omega) g
      exact fin (by rw [show min z k = c by omega]; exact hca)
    · have g : ¬ A 16 (nI i).toNatClampNeg ≤ nI c := g
      rw [ecl] at g
      have hcz := nge_n ez (by omega) (by omega) g
      refine And.intro (vl 2 250 rfl rfl) ?_
      have e2 : begD (A 1) (A 17) (40 * i) c 2 = nI k := by rw [begD_at (by omega)]; exact hk
      refine And.intro (fun g => ?_) (fun g => ?_)
      · have := ge_n e2 (by omega) (by omega) g
        exact fin (by rw [show min z k = c by omega]; exact hca)
      · have hck := nge_n e2 (by omega) (by omega) g
        have ein : vp_in (40 * nI i + nI c) 160 := by rw [ix40]; exact vp_in_nI (by omega) (by omega)
        have eix : (40 * nI i + nI c).toNatClampNeg = 40 * i + c := by rw [ix40]; exact cl (by omega)
        refine And.intro ein ?_
        refine And.intro (vl 1 250 rfl rfl) ?_
        have e1 : begD (A 1) (A 17) (40 * i) c 1 = A 1 1 := begD_at (by omega)
        refine ⟨A 17 (40 * nI i + nI c).toNatClampNeg, 0, begD (A 1) (A 17) (40 * i) c 1 - 1, rfl, fun g1 g2 => ?_, fun g => ?_⟩
        · refine br_f xc_eq1 ?_
          refine And.intro ein ?_
          refine ⟨_, F, c, 2, A 17 (40 * nI i + nI c).toNatClampNeg, rfl, rfl, by omega, ?_⟩
          rw [e1] at g2
          rw [eix] at g1 g2
          refine ⟨50 - (c + 1), by omega, rfl, i, z, c + 1, hi, rfl, g0, ez, hz, by omega, came_go hca ⟨g1, g2⟩, rfl, by rw [← nI_1]; rfl, rfl, ?_⟩
          show LM (aset (aset A 1 (begD (A 1) (A 17) (40 * i) c)) 1 (upd (begD (A 1) (A 17) (40 * i) c) (8 + 8 * c + 2) (A 17 (40 * nI i + nI c).toNatClampNeg))) F = _
          rw [aset_aset, eix, begD_s]
        · refine br_t xc_eq0 ?_
          rw [e1, eix] at g
          exact fin (came_stop hca g _ (by omega))
def sX10_seed : XS := fun as w post => ∃ (A : XA) (F : Nat → Int32) (v : Int32), as = [.ref 0, .int v] ∧ w = LM A F ∧ sQ (qseed v A F) post
set_option maxRecDepth 10000 in
set_option maxHeartbeats 1000000 in
theorem mX10_seed (d : Nat) (hd : 0 ≤ d) : xCT d yX10_seed cX10_seed 3 (some .int) sX10_seed := by
  refine xmet0 (tb := tX10_seed) (fl := fX10) (kc := nX10) (gs := g0) (cl := xlk []) 400 (by decide) tX10_seed_ok fX10_ok nX10_ok g0_ok xg_nil ?_
  rintro L xs as w Qp ⟨A, F, v, rfl, rfl, h⟩
  refine ⟨Nat.le_of_ble_eq_true rfl, ?_⟩
  exact And.intro (vl 3 250 rfl rfl) (And.intro (vl 3 250 rfl rfl) (sQ_e h rfl))
def sX10_trace : XS := fun as w post => ∃ (A : XA) (F : Nat → Int32) (i : Int32), as = [.ref 0, .int i] ∧ w = LM A F ∧ bd (F 24) 41 ∧ sQ (qtrace i A F) post
set_option maxRecDepth 10000 in
set_option maxHeartbeats 1000000 in
theorem mX10_trace (d : Nat) (hd : 1 ≤ d) : xCT d yX10_trace cX10_trace 2 (some .int) sX10_trace := by
  obtain ⟨d, rfl⟩ : ∃ e, d = e + 1 := ⟨d - 1, by omega⟩
  refine xmet0 (tb := tX10_trace) (fl := fX10) (kc := nX10) (gs := g0) (cl := xlk [(65, false, 3, sX10_in), (128, true, 2, xrcv 10 (sX10_finds))]) 400 (by decide) tX10_trace_ok fX10_ok nX10_ok g0_ok (xg_cons (k_X10_65 (mX10_in d (by omega))) (xg_cons (k_X10_128 (mX10_finds d (by omega))) xg_nil)) ?_
  rintro L xs as w Qp ⟨A, F, i, rfl, rfl, ⟨t, ht, et⟩, h⟩
  refine ⟨Nat.le_of_ble_eq_true rfl, ?_⟩
  refine ⟨i, 0, F 24 - 1, rfl, fun g1 g2 => ?_, fun g => ?_⟩
  · refine br_f xc_eq1 ?_
    have e : qtrace i A F = (A 14 i.toNatClampNeg, A, F) := cif_t' ⟨g1, g2⟩ rfl
    rw [et] at g2
    obtain ⟨j, hj, rfl⟩ := rgk (by omega) g1 g2
    exact And.intro (vp_in_nI (by omega) (by decide)) (sQ_e h e)
  · refine br_t xc_eq0 ?_
    refine ⟨A, F, 2, rfl, rfl, by decide, ?_⟩
    exact sQ_e h (cif_f' g rfl)
/-- a sheet's first c numbers are 0 -/
def zed (f : Nat → Int32) (p c : Nat) : Nat → Int32 := fun j => if p ≤ j ∧ j < p + c then 0 else f j
theorem zed_0 (f : Nat → Int32) (p : Nat) : zed f p 0 = f := by
  funext j
  unfold zed
  rw [if_neg (by omega)]
theorem zed_s (f : Nat → Int32) (p c : Nat) : upd (zed f p c) (p + c) 0 = zed f p (c + 1) := by
  funext j
  by_cases h : j = p + c
  · subst h
    rw [pk_us]
    unfold zed
    rw [if_pos (by omega)]
  · rw [pk_un h]
    unfold zed
    by_cases h2 : p ≤ j ∧ j < p + c
    · rw [if_pos h2, if_pos (by omega)]
    · rw [if_neg h2, if_neg (by omega)]
def sX10_sheet : XS := fun as w post => ∃ (A : XA) (F : Nat → Int32) (s b n : Int32), as = [.ref 0, .int s, .int b, .int n] ∧ w = LM A F ∧ sQ (qsheet s b n A F) post
set_option maxRecDepth 10000 in
set_option maxHeartbeats 1000000 in
theorem mX10_sheet (d : Nat) (hd : 2 ≤ d) : xCT d yX10_sheet cX10_sheet 5 (some .int) sX10_sheet := by
  obtain ⟨d, rfl⟩ : ∃ e, d = e + 1 := ⟨d - 1, by omega⟩
  refine xmet (tb := tX10_sheet) (fl := fX10) (kc := nX10) (gs := g0) (cl := xlk [(175, false, 1, sX10_isSheet), (128, true, 2, xrcv 10 (sX10_finds))]) (by decide) tX10_sheet_ok fX10_ok nX10_ok g0_ok (xg_cons (k_X10_175 (mX10_isSheet d (by omega))) (xg_cons (k_X10_128 (mX10_finds d (by omega))) xg_nil)) ?_
  rintro L xs as w Qp ⟨A, F, s, b, n, rfl, rfl, h⟩
  refine ⟨Nat.le_of_ble_eq_true rfl, 400, xlk [(90, 5), (35, 4)], fun m pc ls st w => (pc = 35 ∧ ∃ i, i < 4 ∧ s = nI i ∧ isB b ∧ m = 60 ∧ ls = [(0, .ref 0), (1, .int s), (2, .int b), (3, .int n)] ∧ st = [] ∧ w = LM A F) ∨ (pc = 90 ∧ ∃ i c, i < 4 ∧ s = nI i ∧ isB b ∧ ¬ (¬ b = 0 ∧ n < 0) ∧ ¬ (¬ b = 0 ∧ 40 < n) ∧ c ≤ 40 ∧ m = 50 - c ∧ ls = [(0, .ref 0), (1, .int s), (2, .int b), (3, .int n), (4, .int (nI c))] ∧ st = [] ∧ w = LM (aset (aset (aset A 15 (upd (A 15) i b)) 16 (upd (A 16) i (cif (b = 0) 0 n))) 17 (zed (A 17) (40 * i) c)) F), ?_, ?_⟩
  · have bad : ¬ (isH s ∧ isB b) → Qp (some (.int (lo 1))) (LM (er A 1) F) := fun g => sQ_e h (cif_f' g rfl)
    refine ⟨s, rfl, fun i hi es => ?_, fun g => ?_⟩
    · refine br_f xc_eq1 ?_
      refine And.intro (fun g => ⟨60, Or.inl ⟨rfl, i, hi, es, Or.inl g, rfl, rfl, rfl, rfl⟩⟩) (fun g => ?_)
      have g : ¬ b = 0 := g
      refine And.intro (fun g8 => ⟨60, Or.inl ⟨rfl, i, hi, es, Or.inr (Or.inl g8), rfl, rfl, rfl, rfl⟩⟩) (fun g8 => ?_)
      refine And.intro (fun g16 => ⟨60, Or.inl ⟨rfl, i, hi, es, Or.inr (Or.inr (Or.inl g16)), rfl, rfl, rfl, rfl⟩⟩) (fun g16 => ?_)
      refine And.intro (fun g32 => ⟨60, Or.inl ⟨rfl, i, hi, es, Or.inr (Or.inr (Or.inr g32)), rfl, rfl, rfl, rfl⟩⟩) (fun g32 => ?_)
      refine ⟨A, F, 1, rfl, rfl, by decide, ?_⟩
      exact bad (fun q => by rcases q.2 with q | q | q | q <;> first | exact g q | exact g8 q | exact g16 q | exact g32 q)
    · refine br_t xc_eq0 ?_
      refine ⟨A, F, 1, rfl, rfl, by decide, ?_⟩
      exact bad (fun q => isH_n g q.1)
  · rintro m pc m9 ls st w hc (⟨rfl, i, hi, rfl, hB, rfl, rfl, rfl, rfl⟩ | ⟨rfl, i, c, hi, rfl, hB, g1, g2, hc40, rfl, rfl, rfl, rfl⟩)
    · have hin : vp_in (nI i) 4 := vp_in_nI hi (by decide)
      have ecl : (nI i).toNatClampNeg = i := cl (by omega)
      have hH : isH (nI i) := isH_i hi
      have lay : ∀ v : Int32, v = cif (b = 0) 0 n → aset (aset A 15 (upd (A 15) (nI i).toNatClampNeg b)) 16 (upd (A 16) (nI i).toNatClampNeg v) = aset (aset (aset A 15 (upd (A 15) i b)) 16 (upd (A 16) i (cif (b = 0) 0 n))) 17 (zed (A 17) (40 * i) 0) := by
        intro v hv
        rw [ecl, hv, zed_0]
        exact (aset_eta (aset (aset A 15 (upd (A 15) i b)) 16 (upd (A 16) i (cif (b = 0) 0 n))) 17).symm
      by_cases hb : b = 0
      · have hb2 : xcond .eq b 0 := hb
        refine br_t hb2 (br_t hb2 ?_)
        refine And.intro hin ?_
        refine br_f (fun q => q hb) ?_
        refine And.intro hin ?_
        refine ⟨50, by omega, Or.inr ⟨rfl, i, 0, hi, rfl, hB, fun q => q.1 hb, fun q => q.1 hb, Nat.zero_le _, rfl, rfl, rfl, ?_⟩⟩
        rw [← lay 0 (by rw [cif_t hb])]
        rfl
      · have hb2 : ¬ xcond .eq b 0 := hb
        refine br_f hb2 ?_
        refine And.intro (fun g => ?_) (fun g => ?_)
        · have g : ¬ n < 0 := fun q => (fa_of_lt q).2.1 g
          refine br_f hb2 ?_
          refine And.intro (fun g2 => ?_) (fun g2 => ?_)
          · have g2 : ¬ 40 < n := fun q => (fa_of_lt q).2.1 g2
            refine And.intro hin ?_
            refine br_t hb ?_
            refine And.intro hin ?_
            refine ⟨50, by omega, Or.inr ⟨rfl, i, 0, hi, rfl, hB, fun q => g q.2, fun q => g2 q.2, Nat.zero_le _, rfl, rfl, rfl, ?_⟩⟩
            rw [← lay n (by rw [cif_f hb])]
            rfl
          · have g2 : ¬ n ≤ 40 := g2
            refine ⟨A, F, 1, rfl, rfl, by decide, ?_⟩
            exact sQ_e h (cif_t' ⟨hH, hB⟩ (cif_f' (fun q => g q.2) (cif_t' ⟨hb, fa_of_nle g2⟩ rfl)))
        · have g : n < 0 := fa_of_nle g
          refine ⟨A, F, 3, rfl, rfl, by decide, ?_⟩
          exact sQ_e h (cif_t' ⟨hH, hB⟩ (cif_t' ⟨hb, g⟩ rfl))
    · have ecl : (nI i).toNatClampNeg = i := cl (by omega)
      refine And.intro (fun g => ?_) (fun g => ?_)
      · have := ge_n (k := 40) rfl (by omega) (by omega) g
        refine sQ_e h (cif_t' ⟨isH_i hi, hB⟩ (cif_f' g1 (cif_f' g2 ?_)))
        rw [ecl, show c = 40 by omega]
        rfl
      · have hlt := nge_n (k := 40) rfl (by omega) (by omega) g
        have ein : vp_in (40 * nI i + nI c) 160 := by rw [ix40]; exact vp_in_nI (by omega) (by omega)
        have eix : (40 * nI i + nI c).toNatClampNeg = 40 * i + c := by rw [ix40]; exact cl (by omega)
        refine And.intro ein ?_
        refine ⟨50 - (c + 1), by omega, Or.inr ⟨rfl, i, c + 1, hi, rfl, hB, g1, g2, by omega, rfl, by rw [← nI_1]; rfl, rfl, ?_⟩⟩
        show LM (aset (aset (aset (aset A 15 (upd (A 15) i b)) 16 (upd (A 16) i (cif (b = 0) 0 n))) 17 (zed (A 17) (40 * i) c)) 17 (upd (zed (A 17) (40 * i) c) (40 * nI i + nI c).toNatClampNeg 0)) F = _
        rw [aset_aset, eix, zed_s]
