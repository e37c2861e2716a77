/-! ===== the reference: bars, loose, far, worths, state, check ===== -/
def nw (d : Nat → Int32) : Nat → Int32 := fun s => d (8 + 8 * s + 2)
theorem stp_cg {d : Nat → Int32} {n k : Nat} (hI : DI d n k) {r r' : Nat → Int32} (h : ∀ t, t < k → r t = r' t) : ∀ t, t < k → stp d k r t = stp d k r' t := by
  intro t ht
  obtain ⟨-, -, -, ⟨f, hf, ef⟩, ⟨e, he, ee⟩, -⟩ := hI.2.2.2.2.2.1 t ht
  have hk8 := hI.2.2.2.2.1
  unfold stp fiN seN
  rw [if_pos ht, if_pos ht, ef, ee, cl (by omega), cl (by omega), h f hf, h e he]
theorem itr_cg {d : Nat → Int32} {n k : Nat} (hI : DI d n k) {r r' : Nat → Int32} (h : ∀ t, t < k → r t = r' t) : ∀ m t, t < k → itr d k m r t = itr d k m r' t := by
  intro m
  induction m with
  | zero => exact h
  | succ m ih => exact stp_cg hI ih
theorem nts_nw {d : Nat → Int32} {k : Nat} (r : Nat → Int32) : ∀ t, t < k → nts d k r t = nw d t := by
  intro t ht
  unfold nts nw
  rw [if_pos ht]
theorem endD_cg {d r r' : Nat → Int32} {k : Nat} (h : ∀ t, t < k → r t = r' t) : endD d r k = endD d r' k := by
  funext j
  unfold endD
  by_cases g : 8 ≤ j ∧ (j - 8) / 8 < k ∧ (j - 8) % 8 = 2
  · rw [if_pos g, if_pos g, h _ g.2.1]
  · rw [if_neg g, if_neg g]
theorem RS.per5 {r : Nat} (hr : r = 5 ∨ r = 6) {A A' : XA} {F F' : Nat → Int32} (h : RS r A F A' F') : per A F A' F' := ⟨h.1 1 (by omega) (by omega) (by omega), h.1 2 (by omega) (by omega) (by omega), h.1 3 (by omega) (by omega) (by omega), h.1 14 (by omega) (by omega) (by omega), h.1 15 (by omega) (by omega) (by omega), h.1 16 (by omega) (by omega) (by omega), h.1 17 (by omega) (by omega) (by omega), h.2 2 (by omega), h.2 24 (by omega)⟩
theorem RS_a {A A' : XA} {F F' : Nat → Int32} {f : Nat → Int32} (h : RS 5 (aset A 5 f) F A' F') : RS 5 A F A' F' := ⟨fun p p4 p7 p5 => (h.1 p p4 p7 p5).trans (aset_n p5), h.2⟩
noncomputable def qbars (m : Int32) (A : XA) (F : Nat → Int32) : XR := cif (1 ≤ m ∧ m ≤ 500) (cif (999999 < A 1 0 + m) (eR 3 A F) (A 1 0 + m, aset A 1 (upd (endD (A 1) (itr (A 1) (A 1 2).toNatClampNeg m.toNatClampNeg (nw (A 1))) (A 1 2).toNatClampNeg) 0 (A 1 0 + m)), F)) (eR 1 A F)
def sX10_bars : XS := fun as w post => ∃ (A : XA) (F : Nat → Int32) (m : Int32) (n k : Nat), as = [.ref 0, .int m] ∧ w = LM A F ∧ DI (A 1) n k ∧ TXO (A 1) 0 ∧ sQ (qbars m A F) post
set_option maxRecDepth 10000 in
set_option maxHeartbeats 1000000 in
theorem mX10_bars (d : Nat) (hd : 65 ≤ d) : xCT d yX10_bars cX10_bars 2 (some .int) sX10_bars := by
  obtain ⟨d, rfl⟩ : ∃ e, d = e + 1 := ⟨d - 1, by omega⟩
  refine xmet0 (tb := tX10_bars) (fl := fX10) (kc := nX10) (gs := g0) (cl := xlk [(65, false, 3, sX10_in), (128, true, 2, xrcv 10 (sX10_finds)), (185, true, 2, xrcv 10 (sX10_begins)), (188, true, 3, xrcv 10 (sX10_goesOn)), (192, true, 2, xrcv 10 (sX10_ends))]) 400 (by decide) tX10_bars_ok fX10_ok nX10_ok g0_ok (xg_cons (k_X10_65 (mX10_in d (by omega))) (xg_cons (k_X10_128 (mX10_finds d (by omega))) (xg_cons (k_X10_185 (mX10_begins d (by omega))) (xg_cons (k_X10_188 (mX10_goesOn d (by omega))) (xg_cons (k_X10_192 (mX10_ends d (by omega))) xg_nil))))) ?_
  rintro L xs as w Qp ⟨A, F, m, n, k, rfl, rfl, hI, hT, h⟩
  obtain ⟨hn, hn2, hn12, hk, hk8, -⟩ := id hI
  have hK : (A 1 2).toNatClampNeg = k := by rw [hk]; exact nI_clamp (by omega)
  refine ⟨Nat.le_of_ble_eq_true rfl, ?_⟩
  refine ⟨m, 1, 500, rfl, fun g1 g2 => ?_, fun g => ?_⟩
  · refine br_t xc_ne1 ?_
    refine And.intro (vl 0 250 rfl rfl) ?_
    refine And.intro (fun g => ?_) (fun g => ?_)
    · have g : ¬ 999999 < A 1 0 + m := fun q => (fa_of_lt q).2.1 g
      have e0 : qbars m A F = _ := cif_t' ⟨g1, g2⟩ (cif_f' g rfl)
      obtain ⟨j, hj, rfl⟩ := rg (c := 500) (by omega) (by rw [fa_le] at g1 ⊢; exact Int.le_trans (by decide) g1) g2
      refine ⟨5, by omega, A, F, k, rfl, rfl, hk, hk8, ?_⟩
      refine ⟨5, by omega, _, F, n, k, j, rfl, rfl, hI, hT, by omega, fun A' F' h5 hR => ?_⟩
      have hR := RS_a hR
      have e1 : A' 1 = A 1 := hR.1 1 (by omega) (by omega) (by omega)
      have h5 : A' 5 = itr (A 1) k j (nts (A 1) k (A 5)) := h5
      have e5 : endD (A' 1) (A' 5) k = endD (A 1) (itr (A 1) k j (nw (A 1))) k := by
        rw [e1, h5]
        exact endD_cg (itr_cg hI (nts_nw _) j)
      refine ⟨A', F', k, rfl, rfl, by rw [e1]; exact hk, hk8, ?_⟩
      refine And.intro (vl 0 250 rfl rfl) (And.intro (vl 0 250 rfl rfl) (And.intro (vl 0 250 rfl rfl) ?_))
      rw [hK, cl (by omega)] at e0
      have ez : endD (A' 1) (A' 5) k 0 + nI j = A 1 0 + nI j := by rw [endD_at (by omega), e1]
      have hp := hR.per5 (by omega)
      show Qp (some (.int (upd (endD (A' 1) (A' 5) k) 0 (endD (A' 1) (A' 5) k 0 + nI j) 0))) (LM (aset (aset A' 1 (endD (A' 1) (A' 5) k)) 1 (upd (endD (A' 1) (A' 5) k) 0 (endD (A' 1) (A' 5) k 0 + nI j))) F')
      rw [aset_aset, pk_us, ez, e5]
      exact sQ_p h e0 ⟨rfl, hp.2.1, hp.2.2.1, hp.2.2.2.1, hp.2.2.2.2.1, hp.2.2.2.2.2.1, hp.2.2.2.2.2.2.1, hp.2.2.2.2.2.2.2⟩
    · have g : 999999 < A 1 0 + m := fa_of_nle g
      refine ⟨A, F, 3, rfl, rfl, by decide, ?_⟩
      exact sQ_e h (cif_t' ⟨g1, g2⟩ (cif_t' g rfl))
  · refine br_f xc_ne0 ?_
    refine ⟨A, F, 1, rfl, rfl, by decide, ?_⟩
    exact sQ_e h (cif_f' g rfl)
noncomputable def qfar (m s : Int32) (A : XA) (F : Nat → Int32) : XR := cif ((0 ≤ m ∧ m ≤ 500) ∧ isS (A 1) s) (itr (A 1) (A 1 2).toNatClampNeg m.toNatClampNeg (nw (A 1)) s.toNatClampNeg, A, F) (eR 1 A F)
def sX10_far : XS := fun as w post => ∃ (A : XA) (F : Nat → Int32) (m s : Int32) (n k : Nat), as = [.ref 0, .int m, .int s] ∧ w = LM A F ∧ DI (A 1) n k ∧ TXO (A 1) 0 ∧ sQ (qfar m s A F) post
set_option maxRecDepth 10000 in
set_option maxHeartbeats 1000000 in
theorem mX10_far (d : Nat) (hd : 65 ≤ d) : xCT d yX10_far cX10_far 3 (some .int) sX10_far := by
  obtain ⟨d, rfl⟩ : ∃ e, d = e + 1 := ⟨d - 1, by omega⟩
  refine xmet0 (tb := tX10_far) (fl := fX10) (kc := nX10) (gs := g0) (cl := xlk [(65, false, 3, sX10_in), (163, true, 2, xrcv 10 (sX10_isSinger)), (128, true, 2, xrcv 10 (sX10_finds)), (185, true, 2, xrcv 10 (sX10_begins)), (188, true, 3, xrcv 10 (sX10_goesOn))]) 400 (by decide) tX10_far_ok fX10_ok nX10_ok g0_ok (xg_cons (k_X10_65 (mX10_in d (by omega))) (xg_cons (k_X10_163 (mX10_isSinger d (by omega))) (xg_cons (k_X10_128 (mX10_finds d (by omega))) (xg_cons (k_X10_185 (mX10_begins d (by omega))) (xg_cons (k_X10_188 (mX10_goesOn d (by omega))) xg_nil))))) ?_
  rintro L xs as w Qp ⟨A, F, m, s, n, k, rfl, rfl, hI, hT, h⟩
  obtain ⟨hn, hn2, hn12, hk, hk8, -⟩ := id hI
  have hK : (A 1 2).toNatClampNeg = k := by rw [hk]; exact nI_clamp (by omega)
  refine ⟨Nat.le_of_ble_eq_true rfl, ?_⟩
  refine ⟨m, 0, 500, rfl, fun g1 g2 => ?_, fun g => ?_⟩
  · refine br_f xc_eq1 ?_
    refine ⟨A, F, s, k, rfl, rfl, hk, hk8, fun i hi es => ?_, fun g => ?_⟩
    · subst es
      refine br_t xc_ne1 ?_
      have e0 : qfar m (nI i) A F = _ := cif_t' ⟨⟨g1, g2⟩, isS_i hk hk8 hi⟩ rfl
      obtain ⟨j, hj, rfl⟩ := rg (c := 500) (by omega) g1 g2
      refine ⟨5, by omega, A, F, k, rfl, rfl, hk, hk8, ?_⟩
      refine ⟨5, by omega, _, F, n, k, j, rfl, rfl, hI, hT, by omega, fun A' F' h5 hR => ?_⟩
      have hR := RS_a hR
      have h5 : A' 5 = itr (A 1) k j (nts (A 1) k (A 5)) := h5
      refine And.intro (vp_in_nI (by omega) (by decide)) ?_
      rw [hK, cl (by omega), cl (by omega)] at e0
      have e5 : A' 5 (nI i).toNatClampNeg = itr (A 1) k j (nw (A 1)) i := by
        rw [cl (by omega), h5]
        exact itr_cg hI (nts_nw _) j i hi
      rw [e5]
      exact sQ_p h e0 (hR.per5 (by omega))
    · refine br_f xc_ne0 ?_
      refine ⟨A, F, 1, rfl, rfl, by decide, ?_⟩
      exact sQ_e h (cif_f' (fun q => isS_n hk hk8 g q.2) rfl)
  · refine br_t xc_eq0 ?_
    refine ⟨A, F, 1, rfl, rfl, by decide, ?_⟩
    exact sQ_e h (cif_f' (fun q => g q.1) rfl)
def sX10_worthsOf : XS := fun as w post => ∃ (A : XA) (F : Nat → Int32) (k : Nat), as = [.ref 0, .ref 5] ∧ w = LM A F ∧ A 1 2 = nI k ∧ k ≤ 8 ∧ bd (A 1 73) 51 ∧ TXO (A 1) 1 ∧ ∀ A' F', SW A F A' F' → post (some (.int (wsum (A 1) (A 5) k))) (LM A' F')
theorem SW.t {A B C : XA} {F G H : Nat → Int32} (h1 : SW A F B G) (h2 : SW B G C H) : SW A F C H := ⟨fun p hp => (h2.1 p hp).trans (h1.1 p hp), fun q hq => (h2.2 q hq).trans (h1.2 q hq)⟩
set_option maxRecDepth 10000 in
set_option maxHeartbeats 1000000 in
theorem mX10_worthsOf (d : Nat) (hd : 62 ≤ d) : xCT d yX10_worthsOf cX10_worthsOf 4 (some .int) sX10_worthsOf := by
  obtain ⟨d, rfl⟩ : ∃ e, d = e + 1 := ⟨d - 1, by omega⟩
  refine xmet (tb := tX10_worthsOf) (fl := fX10) (kc := nX10) (gs := g0) (cl := xlk [(141, true, 3, xrcv 10 (sX10_worth))]) (by decide) tX10_worthsOf_ok fX10_ok nX10_ok g0_ok (xg_cons (k_X10_141 (mX10_worth d (by omega))) xg_nil) ?_
  rintro L xs as w Qp ⟨A, F, k, rfl, rfl, hk, hk8, b73, hT, h⟩
  refine ⟨Nat.le_of_ble_eq_true rfl, 400, xlk [(4, 4)], fun m pc ls st w => pc = 4 ∧ st = [] ∧ ∃ s A' F', s ≤ k ∧ m = k - s ∧ ls = [(0, .ref 0), (1, .ref 5), (2, .int (wsum (A 1) (A 5) s)), (3, .int (nI s))] ∧ w = LM A' F' ∧ SW A F A' F', ?_, ?_⟩
  · exact ⟨k, rfl, rfl, 0, A, F, Nat.zero_le _, rfl, rfl, rfl, SW.r A F⟩
  · rintro m pc m9 ls st w hc ⟨rfl, rfl, s, A', F', hs, rfl, rfl, rfl, hS⟩
    have e1 : A' 1 = A 1 := hS.1 1 (by omega)
    have e5 : A' 5 = A 5 := hS.1 5 (by omega)
    have hk' : A' 1 2 = nI k := by rw [e1]; exact hk
    refine And.intro (vl 2 250 rfl rfl) ?_
    refine And.intro (fun g => ?_) (fun g => ?_)
    · have := ge_n hk' (by omega) (by omega) g
      rw [show s = k by omega]
      exact h A' F' hS
    · have hlt := nge_n hk' (by omega) (by omega) g
      refine And.intro (vp_in_nI (by omega) (by decide)) ?_
      refine ⟨A', F', A' 5 (nI s).toNatClampNeg, nI s, rfl, rfl, by rw [e1]; exact b73, by rw [e1]; exact hT, fun A2 F2 h2 => ?_⟩
      refine ⟨k - (s + 1), by omega, rfl, rfl, s + 1, A2, F2, hlt, rfl, ?_, rfl, hS.t h2⟩
      have e : wsum (A 1) (A 5) (s + 1) = wsum (A 1) (A 5) s + worthV (A' 1) (A' 5 (nI s).toNatClampNeg) (nI s) := by
        rw [e1, e5, cl (by omega)]
        rfl
      rw [e, ← nI_1]
      rfl
theorem wsum_cg {d r r' : Nat → Int32} : ∀ k, (∀ t, t < k → r t = r' t) → wsum d r k = wsum d r' k
  | 0, _ => rfl
  | k + 1, h => by
    show wsum d r k + worthV d (r k) (nI k) = wsum d r' k + worthV d (r' k) (nI k)
    rw [wsum_cg k (fun t ht => h t (by omega)), h k (by omega)]
noncomputable def qworths (m : Int32) (A : XA) (F : Nat → Int32) : XR := cif (0 ≤ m ∧ m ≤ 500) (wsum (A 1) (itr (A 1) (A 1 2).toNatClampNeg m.toNatClampNeg (nw (A 1))) (A 1 2).toNatClampNeg, A, F) (eR 1 A F)
def sX10_worths : XS := fun as w post => ∃ (A : XA) (F : Nat → Int32) (m : Int32) (n k : Nat), as = [.ref 0, .int m] ∧ w = LM A F ∧ DI (A 1) n k ∧ TXO (A 1) 0 ∧ TXO (A 1) 1 ∧ sQ (qworths m A F) post
theorem SW_per_t {A B C : XA} {F G H : Nat → Int32} (h1 : per A F B G) (h2 : SW B G C H) : per A F C H := by
  obtain ⟨a1, a2, a3, a4, a5, a6, a7, a8, a9⟩ := h1
  obtain ⟨b1, b2, b3, b4, b5, b6, b7, b8, b9⟩ := h2.per
  exact ⟨b1.trans a1, b2.trans a2, b3.trans a3, b4.trans a4, b5.trans a5, b6.trans a6, b7.trans a7, b8.trans a8, b9.trans a9⟩
set_option maxRecDepth 10000 in
set_option maxHeartbeats 1000000 in
theorem mX10_worths (d : Nat) (hd : 65 ≤ d) : xCT d yX10_worths cX10_worths 2 (some .int) sX10_worths := by
  obtain ⟨d, rfl⟩ : ∃ e, d = e + 1 := ⟨d - 1, by omega⟩
  refine xmet0 (tb := tX10_worths) (fl := fX10) (kc := nX10) (gs := g0) (cl := xlk [(65, false, 3, sX10_in), (128, true, 2, xrcv 10 (sX10_finds)), (185, true, 2, xrcv 10 (sX10_begins)), (188, true, 3, xrcv 10 (sX10_goesOn)), (201, true, 2, xrcv 10 (sX10_worthsOf))]) 400 (by decide) tX10_worths_ok fX10_ok nX10_ok g0_ok (xg_cons (k_X10_65 (mX10_in d (by omega))) (xg_cons (k_X10_128 (mX10_finds d (by omega))) (xg_cons (k_X10_185 (mX10_begins d (by omega))) (xg_cons (k_X10_188 (mX10_goesOn d (by omega))) (xg_cons (k_X10_201 (mX10_worthsOf d (by omega))) xg_nil))))) ?_
  rintro L xs as w Qp ⟨A, F, m, n, k, rfl, rfl, hI, hT, hT1, h⟩
  obtain ⟨hn, hn2, hn12, hk, hk8, -, -, -, -, -, b73, -⟩ := id hI
  have hK : (A 1 2).toNatClampNeg = k := by rw [hk]; exact nI_clamp (by omega)
  refine ⟨Nat.le_of_ble_eq_true rfl, ?_⟩
  refine ⟨m, 0, 500, rfl, fun g1 g2 => ?_, fun g => ?_⟩
  · refine br_t xc_ne1 ?_
    have e0 : qworths m A F = _ := cif_t' ⟨g1, g2⟩ rfl
    obtain ⟨j, hj, rfl⟩ := rg (c := 500) (by omega) g1 g2
    refine ⟨5, by omega, A, F, k, rfl, rfl, hk, hk8, ?_⟩
    refine ⟨5, by omega, _, F, n, k, j, rfl, rfl, hI, hT, by omega, fun A' F' h5 hR => ?_⟩
    have hR := RS_a hR
    have e1 : A' 1 = A 1 := hR.1 1 (by omega) (by omega) (by omega)
    have h5 : A' 5 = itr (A 1) k j (nts (A 1) k (A 5)) := h5
    refine ⟨A', F', k, rfl, rfl, by rw [e1]; exact hk, hk8, by rw [e1]; exact b73, by rw [e1]; exact hT1, fun A2 F2 h2 => ?_⟩
    rw [hK, cl (by omega)] at e0
    rw [e1, h5, wsum_cg k (itr_cg hI (nts_nw _) j)]
    exact sQ_p h e0 (SW_per_t (hR.per5 (by omega)) h2)
  · refine br_f xc_ne0 ?_
    refine ⟨A, F, 1, rfl, rfl, by decide, ?_⟩
    exact sQ_e h (cif_f' g rfl)
def sX10_numberOf : XS := fun as w post => ∃ (A : XA) (F : Nat → Int32) (k : Nat), as = [.ref 0, .ref 5] ∧ w = LM A F ∧ A 1 2 = nI k ∧ k ≤ 8 ∧ post (some (.int (numF (A 1 1) (A 5) k 0))) (LM A F)
set_option maxRecDepth 10000 in
set_option maxHeartbeats 1000000 in
theorem mX10_numberOf (d : Nat) (hd : 0 ≤ d) : xCT d yX10_numberOf cX10_numberOf 4 (some .int) sX10_numberOf := by
  refine xmet (tb := tX10_numberOf) (fl := fX10) (kc := nX10) (gs := g0) (cl := xlk []) (by decide) tX10_numberOf_ok fX10_ok nX10_ok g0_ok xg_nil ?_
  rintro L xs as w Qp ⟨A, F, k, rfl, rfl, hk, hk8, h⟩
  refine ⟨Nat.le_of_ble_eq_true rfl, 400, xlk [(11, 4)], fun m pc ls st w => pc = 11 ∧ st = [] ∧ ∃ s v, s ≤ k ∧ m = s ∧ ls = [(0, .ref 0), (1, .ref 5), (2, .int v), (3, .int (nI s - 1))] ∧ w = LM A F ∧ numF (A 1 1) (A 5) s v = numF (A 1 1) (A 5) k 0, ?_, ?_⟩
  · refine And.intro (vl 2 250 rfl rfl) ?_
    exact ⟨k, rfl, rfl, k, 0, Nat.le_refl _, rfl, by rw [← hk]; rfl, rfl, rfl⟩
  · rintro m pc m9 ls st w hc ⟨rfl, rfl, s, v, hs, hm, rfl, rfl, hv⟩
    refine And.intro (fun g => ?_) (fun g => ?_)
    · have g : nI s - 1 < 0 := g
      rcases Nat.eq_zero_or_pos s with q | q
      · subst q
        have hv : v = numF (A 1 1) (A 5) k 0 := hv
        rw [← hv] at h
        exact h
      · obtain ⟨t, rfl⟩ : ∃ t, s = t + 1 := ⟨s - 1, by omega⟩
        rw [nI_pred] at g
        exact absurd g (nI_pos (by omega))
    · have g : ¬ nI s - 1 < 0 := g
      have hs0 : 0 < s := by
        rcases Nat.eq_zero_or_pos s with q | q
        · subst q
          exact absurd (by decide) g
        · exact q
      obtain ⟨t, rfl⟩ : ∃ t, s = t + 1 := ⟨s - 1, by omega⟩
      rw [nI_pred]
      refine And.intro (vl 1 250 rfl rfl) (And.intro (vp_in_nI (by omega) (by decide)) ?_)
      refine ⟨t, by omega, rfl, rfl, t, A 1 1 * v + A 5 (nI t).toNatClampNeg, by omega, rfl, by rw [Int32.sub_eq_add_neg]; rfl, rfl, ?_⟩
      rw [cl (by omega)]
      exact hv
theorem numF_cg {N : Int32} {r r' : Nat → Int32} : ∀ k v, (∀ t, t < k → r t = r' t) → numF N r k v = numF N r' k v
  | 0, _, _ => rfl
  | k + 1, v, h => by
    show numF N r k (N * v + r k) = numF N r' k (N * v + r' k)
    rw [h k (by omega)]
    exact numF_cg k _ (fun t ht => h t (by omega))
def sX10_state : XS := fun as w post => ∃ (A : XA) (F : Nat → Int32) (k : Nat), as = [.ref 0] ∧ w = LM A F ∧ A 1 2 = nI k ∧ k ≤ 8 ∧ ∀ A' F', per A F A' F' → post (some (.long (numF (A 1 1) (nw (A 1)) k 0).toInt64)) (LM A' F')
set_option maxRecDepth 10000 in
set_option maxHeartbeats 1000000 in
theorem mX10_state (d : Nat) (hd : 2 ≤ d) : xCT d yX10_state cX10_state 1 (some .long) sX10_state := by
  obtain ⟨d, rfl⟩ : ∃ e, d = e + 1 := ⟨d - 1, by omega⟩
  refine xmet0 (tb := tX10_state) (fl := fX10) (kc := nX10) (gs := g0) (cl := xlk [(185, true, 2, xrcv 10 (sX10_begins)), (205, true, 2, xrcv 10 (sX10_numberOf))]) 400 (by decide) tX10_state_ok fX10_ok nX10_ok g0_ok (xg_cons (k_X10_185 (mX10_begins d (by omega))) (xg_cons (k_X10_205 (mX10_numberOf d (by omega))) xg_nil)) ?_
  rintro L xs as w Qp ⟨A, F, k, rfl, rfl, hk, hk8, h⟩
  refine ⟨Nat.le_of_ble_eq_true rfl, ?_⟩
  refine ⟨5, by omega, A, F, k, rfl, rfl, hk, hk8, ?_⟩
  refine ⟨_, F, k, rfl, rfl, hk, hk8, ?_⟩
  have e : numF (A 1 1) (nts (A 1) k (A 5)) k 0 = numF (A 1 1) (nw (A 1)) k 0 := numF_cg k 0 (nts_nw _)
  have hq := h (aset A 5 (nts (A 1) k (A 5))) F ⟨rfl, rfl, rfl, rfl, rfl, rfl, rfl, rfl, rfl⟩
  rw [← e] at hq
  exact hq
/-- the first of c numbers that wait which the singer doesn't sing; c: none -/
noncomputable def ck (d : Nat → Int32) (k s : Nat) : Nat → Nat
  | 0 => 0
  | c + 1 => cif (ck d k s c = c ∧ itr d k (c + 1) (nw d) s = d (76 + c)) (c + 1) (ck d k s c)
theorem ck_stop {d : Nat → Int32} {k s c : Nat} (h : ck d k s c = c) (hs : ¬ itr d k (c + 1) (nw d) s = d (76 + c)) : ∀ m, c ≤ m → ck d k s m = c := by
  intro m hm
  induction m with
  | zero =>
    rw [show c = 0 by omega]
    rfl
  | succ m ih =>
    rcases Nat.lt_or_ge m c with q | q
    · rw [show m + 1 = c by omega]
      exact h
    · have h2 := ih q
      unfold ck
      rw [cif_f, h2]
      rintro ⟨a, b⟩
      rw [h2] at a
      rw [← a] at b
      exact hs b
theorem ck_go {d : Nat → Int32} {k s c : Nat} (h : ck d k s c = c) (hs : itr d k (c + 1) (nw d) s = d (76 + c)) : ck d k s (c + 1) = c + 1 := by
  unfold ck
  rw [cif_t ⟨h, hs⟩]
noncomputable def qcheck (s : Int32) (A : XA) (F : Nat → Int32) : XR := cif (isS (A 1) s) (cif (ck (A 1) (A 1 2).toNatClampNeg s.toNatClampNeg (A 1 5).toNatClampNeg = (A 1 5).toNatClampNeg) 0 (nI (1 + ck (A 1) (A 1 2).toNatClampNeg s.toNatClampNeg (A 1 5).toNatClampNeg)), aset A 1 (upd (A 1) 5 0), F) (eR 1 (aset A 1 (upd (A 1) 5 0)) F)
/-- what isn't read for a bar doesn't matter -/
theorem nxt_cg {d d' : Nat → Int32} (h : ∀ j, j ≠ 5 → d' j = d j) (i : Nat) (l s : Int32) : nxt d' i l s = nxt d i l s := by
  unfold nxt vraw addsV
  have e : (fun j => d' (96 + j)) = (fun j => d (96 + j)) := by
    funext j
    exact h _ (by omega)
  rw [h 1 (by omega), h (8 + 8 * i + 0) (by omega), h (8 + 8 * i + 1) (by omega), h 72 (by omega), e]
theorem itr_cg5 {d d' : Nat → Int32} (h : ∀ j, j ≠ 5 → d' j = d j) (k : Nat) (r : Nat → Int32) : ∀ m, itr d' k m r = itr d k m r := by
  intro m
  induction m with
  | zero => rfl
  | succ m ih =>
    show stp d' k (itr d' k m r) = stp d k (itr d k m r)
    rw [ih]
    funext t
    unfold stp fiN seN
    rw [nxt_cg h, h (8 + 8 * t + 3) (by omega), h (8 + 8 * t + 4) (by omega)]
theorem DI5 {d : Nat → Int32} {n k : Nat} (h : DI d n k) : DI (upd d 5 0) n k := by
  obtain ⟨h1, h2, h3, h4, h5, h6, h7, h8, h9, h10, h11, h12, h13⟩ := h
  have u : ∀ j, j ≠ 5 → upd d 5 0 j = d j := fun j hj => pk_un hj
  refine ⟨by rw [u 1 (by omega)]; exact h1, h2, h3, by rw [u 2 (by omega)]; exact h4, h5, fun i hi => ?_, by rw [u 0 (by omega)]; exact h7, by rw [u 4 (by omega)]; exact h8, ⟨0, by omega, pk_us⟩, by rw [u 72 (by omega)]; exact h10, by rw [u 73 (by omega)]; exact h11, fun j hj => by rw [u _ (by omega)]; exact h12 j hj, fun j hj => by rw [u _ (by omega)]; exact h13 j hj⟩
  have hs := h6 i hi
  unfold SG at hs ⊢
  rw [u _ (by omega), u _ (by omega), u _ (by omega), u _ (by omega), u _ (by omega), u _ (by omega), u _ (by omega)]
  exact hs
theorem TXO5 {d : Nat → Int32} {u : Nat} (h : TXO d u) : TXO (upd d 5 0) u := by
  unfold TXO at h ⊢
  have e : (fun j => upd d 5 0 (96 + 50 * u + j)) = (fun j => d (96 + 50 * u + j)) := by
    funext j
    exact pk_un (by omega)
  rw [e, pk_un (by omega)]
  exact h
def sX10_check : XS := fun as w post => ∃ (A : XA) (F : Nat → Int32) (s : Int32) (n k : Nat), as = [.ref 0, .int s] ∧ w = LM A F ∧ DI (A 1) n k ∧ TXO (A 1) 0 ∧ sQ (qcheck s A F) post
set_option maxRecDepth 10000 in
set_option maxHeartbeats 1000000 in
theorem mX10_check (d : Nat) (hd : 64 ≤ d) : xCT d yX10_check cX10_check 4 (some .int) sX10_check := by
  obtain ⟨d, rfl⟩ : ∃ e, d = e + 1 := ⟨d - 1, by omega⟩
  refine xmet (tb := tX10_check) (fl := fX10) (kc := nX10) (gs := g0) (cl := xlk [(163, true, 2, xrcv 10 (sX10_isSinger)), (128, true, 2, xrcv 10 (sX10_finds)), (185, true, 2, xrcv 10 (sX10_begins)), (178, true, 2, xrcv 10 (sX10_goesBy))]) (by decide) tX10_check_ok fX10_ok nX10_ok g0_ok (xg_cons (k_X10_163 (mX10_isSinger d (by omega))) (xg_cons (k_X10_128 (mX10_finds d (by omega))) (xg_cons (k_X10_185 (mX10_begins d (by omega))) (xg_cons (k_X10_178 (mX10_goesBy d (by omega))) xg_nil)))) ?_
  rintro L xs as w Qp ⟨A, F, s, n, k, rfl, rfl, hI, hT, h⟩
  obtain ⟨hn, hn2, hn12, hk, hk8, -, -, -, ⟨t, ht, et⟩, -⟩ := id hI
  have hK : (A 1 2).toNatClampNeg = k := by rw [hk]; exact nI_clamp (by omega)
  have hT5 : (A 1 5).toNatClampNeg = t := by rw [et]; exact nI_clamp (by omega)
  have u5 : ∀ j, j ≠ 5 → upd (A 1) 5 0 j = A 1 j := fun j hj => pk_un hj
  have hI5 := DI5 hI
  have hTX5 := TXO5 hT
  have hk5 : upd (A 1) 5 0 2 = nI k := by rw [u5 2 (by omega)]; exact hk
  have nw5 : nw (upd (A 1) 5 0) = nw (A 1) := by
    funext j
    exact u5 _ (by omega)
  unfold qcheck at h
  refine ⟨Nat.le_of_ble_eq_true rfl, 400, xlk [(38, 4)], fun m pc ls st w => pc = 38 ∧ st = [] ∧ ∃ i c A' F', i < k ∧ s = nI i ∧ c ≤ t ∧ m = t - c ∧ ls = [(0, .ref 0), (1, .int s), (2, .int (nI t)), (3, .int (nI c))] ∧ w = LM A' F' ∧ RS 5 (aset A 1 (upd (A 1) 5 0)) F A' F' ∧ (∀ x, x < k → A' 5 x = itr (A 1) k c (nw (A 1)) x) ∧ ck (A 1) k i c = c, ?_, ?_⟩
  · refine And.intro (vl 5 250 rfl rfl) (And.intro (vl 5 250 rfl rfl) ?_)
    refine ⟨aset A 1 (upd (A 1) 5 0), F, s, k, rfl, rfl, hk5, hk8, fun i hi es => ?_, fun g => ?_⟩
    · refine br_t xc_ne1 ?_
      refine ⟨5, by omega, aset A 1 (upd (A 1) 5 0), F, k, rfl, rfl, hk5, hk8, ?_⟩
      refine ⟨t, rfl, rfl, i, 0, _, F, hi, es, Nat.zero_le _, rfl, by rw [← et]; rfl, rfl, ⟨fun p p4 p7 p5 => aset_n p5, fun _ _ => rfl⟩, fun x hx => ?_, rfl⟩
      show nts (upd (A 1) 5 0) k (A 5) x = nw (A 1) x
      rw [nts_nw _ x hx, nw5]
    · refine br_f xc_ne0 ?_
      refine ⟨aset A 1 (upd (A 1) 5 0), F, 1, rfl, rfl, by decide, ?_⟩
      refine sQ_e h (cif_f' ?_ rfl)
      have := isS_n hk5 hk8 g
      unfold isS at this ⊢
      rw [u5 2 (by omega)] at this
      exact this
  · rintro m pc m9 ls st w hc ⟨rfl, rfl, i, c, A', F', hi, rfl, hct, rfl, rfl, rfl, hR, h5, hck⟩
    have e1 : A' 1 = upd (A 1) 5 0 := hR.1 1 (by omega) (by omega) (by omega)
    have ecl : (nI i).toNatClampNeg = i := cl (by omega)
    have hh : isS (A 1) (nI i) := isS_i hk hk8 hi
    rw [cif_t hh, hK, hT5, ecl] at h
    refine And.intro (fun g => ?_) (fun g => ?_)
    · have := ge_n rfl (by omega) (by omega) g
      have ec : c = t := by omega
      subst ec
      rw [cif_t hck] at h
      exact sQ_p h rfl (hR.per5 (by omega))
    · have hlt := nge_n rfl (by omega) (by omega) g
      refine ⟨5, by omega, A', F', n, k, rfl, rfl, by rw [e1]; exact hI5, by rw [e1]; exact hTX5, fun A2 F2 h2 hR2 => ?_⟩
      have e12 : A2 1 = upd (A 1) 5 0 := (hR2.1 1 (by omega) (by omega) (by omega)).trans e1
      have h5' : ∀ x, x < k → A2 5 x = itr (A 1) k (c + 1) (nw (A 1)) x := by
        intro x hx
        have q1 := stp_cg hI5 h5 x hx
        rw [h2, e1, q1]
        have q2 := itr_cg5 u5 k (itr (A 1) k c (nw (A 1))) 1
        exact congrFun q2 x
      have hR3 : RS 5 (aset A 1 (upd (A 1) 5 0)) F A2 F2 := ⟨fun p p4 p7 p5 => (hR2.1 p p4 p7 p5).trans (hR.1 p p4 p7 p5), fun q hq => (hR2.2 q hq).trans (hR.2 q hq)⟩
      have e76 : (76 : Int32) + nI c = nI (76 + c) := by rw [show (76 : Int32) = nI 76 from rfl, nI_add]
      refine And.intro (vp_in_nI (by omega) (by decide)) (And.intro (by show vp_in (76 + nI c) 250; rw [e76]; exact vp_in_nI (by omega) (by decide)) ?_)
      have ea : A2 5 (nI i).toNatClampNeg = itr (A 1) k (c + 1) (nw (A 1)) i := by rw [ecl]; exact h5' i hi
      have eb : A2 1 (76 + nI c).toNatClampNeg = A 1 (76 + c) := by rw [e76, cl (by omega), e12]; exact u5 _ (by omega)
      refine And.intro (fun g2 => ?_) (fun g2 => ?_)
      · have g2 : A2 5 (nI i).toNatClampNeg = A2 1 (76 + nI c).toNatClampNeg := g2
        rw [ea, eb] at g2
        exact ⟨t - (c + 1), by omega, rfl, rfl, i, c + 1, A2, F2, hi, rfl, hlt, rfl, by rw [← nI_1]; rfl, rfl, hR3, h5', ck_go hck g2⟩
      · have g2 : ¬ A2 5 (nI i).toNatClampNeg = A2 1 (76 + nI c).toNatClampNeg := g2
        rw [ea, eb] at g2
        have hs := ck_stop hck g2 t hct
        rw [hs, cif_f (by omega)] at h
        have e : (1 : Int32) + nI c = nI (1 + c) := by rw [show (1 : Int32) = nI 1 from rfl, nI_add]
        have hq := sQ_p h rfl (hR3.per5 (by omega))
        rw [← e] at hq
        exact hq
