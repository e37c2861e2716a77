/-! ===== the reference: put, move, images, what waits, counts, the tape ===== -/
theorem sQ_p {q : XR} {post : Option Value → XW → Prop} {A A' : XA} {F F' : Nat → Int32} {r : Int32} (h : sQ q post) (e : q = (r, A, F)) (hp : per A F A' F') : post (some (.int r)) (LM A' F') := by
  subst e
  exact h A' F' hp
theorem pos_of {x : Int32} (h : ¬ x < 0) : ∃ j : Nat, j < 2 ^ 31 ∧ x = nI j := nI_of h
theorem subI {a b : Nat} (ha : a < 2 ^ 31) (hb : b < 2 ^ 31) : (nI a - nI b).toInt = (a : Int) - b := by
  rw [Int32.toInt_sub, nI_toInt ha, nI_toInt hb, Int.bmod_eq_of_le] <;> omega
def sX10_put : XS := fun as w post => ∃ (A : XA) (F : Nat → Int32) (s i v : Int32), as = [.ref 0, .int s, .int i, .int v] ∧ w = LM A F ∧ SI A ∧ sQ (qput s i v A F) post
set_option maxRecDepth 10000 in
set_option maxHeartbeats 1000000 in
theorem mX10_put (d : Nat) (hd : 2 ≤ d) : xCT d yX10_put cX10_put 4 (some .int) sX10_put := by
  obtain ⟨d, rfl⟩ : ∃ e, d = e + 1 := ⟨d - 1, by omega⟩
  refine xmet0 (tb := tX10_put) (fl := fX10) (kc := nX10) (gs := g0) (cl := xlk [(175, false, 1, sX10_isSheet), (128, true, 2, xrcv 10 (sX10_finds)), (65, false, 3, sX10_in)]) 400 (by decide) tX10_put_ok fX10_ok nX10_ok g0_ok (xg_cons (k_X10_175 (mX10_isSheet d (by omega))) (xg_cons (k_X10_128 (mX10_finds d (by omega))) (xg_cons (k_X10_65 (mX10_in d (by omega))) xg_nil))) ?_
  rintro L xs as w Qp ⟨A, F, s, i, v, rfl, rfl, hSI, h⟩
  refine ⟨Nat.le_of_ble_eq_true rfl, ?_⟩
  refine ⟨s, rfl, fun t ht es => ?_, fun g => ?_⟩
  · subst es
    have hin : vp_in (nI t) 4 := vp_in_nI ht (by decide)
    have ecl : (nI t).toNatClampNeg = t := cl (by omega)
    obtain ⟨z, hz, ez⟩ := hSI t ht
    refine br_t xc_ne1 ?_
    refine And.intro hin ?_
    refine And.intro (fun g0 => ?_) (fun g0 => ?_)
    · have g0 : ¬ A 15 (nI t).toNatClampNeg = 0 := g0
      refine And.intro hin ?_
      refine ⟨i, 0, A 16 (nI t).toNatClampNeg - 1, rfl, fun g1 g2 => ?_, fun g => ?_⟩
      · refine br_t xc_ne1 ?_
        have e0 : qput (nI t) i v A F = (1, aset A 17 (upd (A 17) (40 * (nI t).toNatClampNeg + i.toNatClampNeg) (low (A 15 (nI t).toNatClampNeg) v)), F) := cif_t' (isH_i ht) (cif_f' g0 (cif_t' ⟨g1, g2⟩ rfl))
        have g2' := g2
        rw [ecl, ez] at g2'
        obtain ⟨j, hj, rfl⟩ := rgk (by omega) g1 g2'
        have ein : vp_in (40 * nI t + nI j) 160 := by rw [ix40]; exact vp_in_nI (by omega) (by omega)
        have eix : (40 * nI t + nI j).toNatClampNeg = 40 * (nI t).toNatClampNeg + (nI j).toNatClampNeg := by rw [ix40, cl (by omega), ecl, cl (by omega)]
        refine And.intro hin ?_
        refine And.intro (fun g8 => ?_) (fun g8 => ?_)
        · have g8 : ¬ A 15 (nI t).toNatClampNeg = 8 := g8
          refine And.intro hin ?_
          refine And.intro (fun g16 => ?_) (fun g16 => ?_)
          · have g16 : ¬ A 15 (nI t).toNatClampNeg = 16 := g16
            refine And.intro ein ?_
            show Qp (some (.int 1)) (LM (aset A 17 (upd (A 17) (40 * nI t + nI j).toNatClampNeg v)) F)
            refine sQ_e h (e0.trans ?_)
            rw [← eix]
            unfold low
            rw [cif_f g8, cif_f g16]
          · have g16 : A 15 (nI t).toNatClampNeg = 16 := Classical.not_not.mp g16
            refine And.intro ein ?_
            show Qp (some (.int 1)) (LM (aset A 17 (upd (A 17) (40 * nI t + nI j).toNatClampNeg v.toInt16.toInt32)) F)
            refine sQ_e h (e0.trans ?_)
            rw [← eix]
            unfold low
            rw [cif_f g8, cif_t g16]
        · have g8 : A 15 (nI t).toNatClampNeg = 8 := Classical.not_not.mp g8
          refine And.intro ein ?_
          show Qp (some (.int 1)) (LM (aset A 17 (upd (A 17) (40 * nI t + nI j).toNatClampNeg v.toInt8.toInt32)) F)
          refine sQ_e h (e0.trans ?_)
          rw [← eix]
          unfold low
          rw [cif_t g8]
      · refine br_f xc_ne0 ?_
        refine ⟨A, F, 1, rfl, rfl, by decide, ?_⟩
        exact sQ_e h (cif_t' (isH_i ht) (cif_f' g0 (cif_f' g rfl)))
    · have g0 : A 15 (nI t).toNatClampNeg = 0 := Classical.not_not.mp g0
      refine ⟨A, F, 2, rfl, rfl, by decide, ?_⟩
      exact sQ_e h (cif_t' (isH_i ht) (cif_t' g0 rfl))
  · refine br_f xc_ne0 ?_
    refine ⟨A, F, 1, rfl, rfl, by decide, ?_⟩
    exact sQ_e h (cif_f' (isH_n g) rfl)
def cpU (f g : Nat → Int32) (s : Nat) : Nat → Int32 := fun j => if j < s then f j else g j
theorem cpU_0 (f g : Nat → Int32) : cpU f g 0 = g := by
  funext j
  unfold cpU
  rw [if_neg (by omega)]
theorem cpU_s (f g : Nat → Int32) (s : Nat) : upd (cpU f g s) s (f s) = cpU f g (s + 1) := by
  funext j
  by_cases h : j = s
  · subst h
    rw [pk_us]
    unfold cpU
    rw [if_pos (by omega)]
  · rw [pk_un h]
    unfold cpU
    by_cases h2 : j < s
    · rw [if_pos h2, if_pos (by omega)]
    · rw [if_neg h2, if_neg (by omega)]
def sX10_copies : XS := fun as w post => ∃ (A : XA) (F : Nat → Int32), w = LM A F ∧ ((as = [.ref 1, .ref 2] ∧ post none (LM (aset A 2 (cp (A 1) (A 2))) F)) ∨ (as = [.ref 2, .ref 1] ∧ post none (LM (aset A 1 (cp (A 2) (A 1))) F)))
set_option maxRecDepth 10000 in
set_option maxHeartbeats 1000000 in
theorem mX10_copies (d : Nat) (hd : 0 ≤ d) : xCT d yX10_copies cX10_copies 3 none sX10_copies := by
  refine xmet (tb := tX10_copies) (fl := fX10) (kc := nX10) (gs := g0) (cl := xlk []) (by decide) tX10_copies_ok fX10_ok nX10_ok g0_ok xg_nil ?_
  rintro L xs as w Qp ⟨A, F, rfl, ⟨rfl, h⟩ | ⟨rfl, h⟩⟩
  · refine ⟨Nat.le_of_ble_eq_true rfl, 400, xlk [(2, 3)], fun m pc ls st w => pc = 2 ∧ ∃ s, s ≤ 250 ∧ m = 250 - s ∧ ls = [(0, .ref 1), (1, .ref 2), (2, .int (nI s))] ∧ st = [] ∧ w = LM (aset A 2 (cpU (A 1) (A 2) s)) F, ?_, ?_⟩
    · refine ⟨250, rfl, 0, Nat.zero_le _, rfl, rfl, rfl, ?_⟩
      rw [cpU_0, aset_eta]
    · rintro m pc m9 ls st w hc ⟨rfl, s, hs, rfl, rfl, rfl, rfl⟩
      refine And.intro (fun g => ?_) (fun g => ?_)
      · have := ge_n (k := 250) rfl (by omega) (by omega) g
        rw [show s = 250 by omega]
        exact h
      · have hlt := nge_n (k := 250) rfl (by omega) (by omega) g
        have hin : vp_in (nI s) 250 := vp_in_nI hlt (by decide)
        refine And.intro hin (And.intro hin ?_)
        refine ⟨250 - (s + 1), by omega, rfl, s + 1, by omega, rfl, by rw [← nI_1]; rfl, rfl, ?_⟩
        show LM (aset (aset A 2 (cpU (A 1) (A 2) s)) 2 (upd (cpU (A 1) (A 2) s) (nI s).toNatClampNeg (A 1 (nI s).toNatClampNeg))) F = _
        rw [aset_aset, cl (by omega), cpU_s]
  · refine ⟨Nat.le_of_ble_eq_true rfl, 400, xlk [(2, 3)], fun m pc ls st w => pc = 2 ∧ ∃ s, s ≤ 250 ∧ m = 250 - s ∧ ls = [(0, .ref 2), (1, .ref 1), (2, .int (nI s))] ∧ st = [] ∧ w = LM (aset A 1 (cpU (A 2) (A 1) s)) F, ?_, ?_⟩
    · refine ⟨250, rfl, 0, Nat.zero_le _, rfl, rfl, rfl, ?_⟩
      rw [cpU_0, aset_eta]
    · rintro m pc m9 ls st w hc ⟨rfl, s, hs, rfl, rfl, rfl, rfl⟩
      refine And.intro (fun g => ?_) (fun g => ?_)
      · have := ge_n (k := 250) rfl (by omega) (by omega) g
        rw [show s = 250 by omega]
        exact h
      · have hlt := nge_n (k := 250) rfl (by omega) (by omega) g
        have hin : vp_in (nI s) 250 := vp_in_nI hlt (by decide)
        refine And.intro hin (And.intro hin ?_)
        refine ⟨250 - (s + 1), by omega, rfl, s + 1, by omega, rfl, by rw [← nI_1]; rfl, rfl, ?_⟩
        show LM (aset (aset A 1 (cpU (A 2) (A 1) s)) 1 (upd (cpU (A 2) (A 1) s) (nI s).toNatClampNeg (A 2 (nI s).toNatClampNeg))) F = _
        rw [aset_aset, cl (by omega), cpU_s]
def sX10_image : XS := fun as w post => ∃ (A : XA) (F : Nat → Int32), as = [.ref 0] ∧ w = LM A F ∧ sQ (qimage A F) post
set_option maxRecDepth 10000 in
set_option maxHeartbeats 1000000 in
theorem mX10_image (d : Nat) (hd : 1 ≤ d) : xCT d yX10_image cX10_image 1 (some .int) sX10_image := by
  obtain ⟨d, rfl⟩ : ∃ e, d = e + 1 := ⟨d - 1, by omega⟩
  refine xmet0 (tb := tX10_image) (fl := fX10) (kc := nX10) (gs := g0) (cl := xlk [(289, false, 2, sX10_copies)]) 400 (by decide) tX10_image_ok fX10_ok nX10_ok g0_ok (xg_cons (k_X10_289 (mX10_copies d (by omega))) xg_nil) ?_
  rintro L xs as w Qp ⟨A, F, rfl, rfl, h⟩
  refine ⟨Nat.le_of_ble_eq_true rfl, ?_⟩
  refine ⟨A, F, rfl, Or.inl ⟨rfl, ?_⟩⟩
  exact sQ_e h rfl
def sX10_restore : XS := fun as w post => ∃ (A : XA) (F : Nat → Int32), as = [.ref 0] ∧ w = LM A F ∧ sQ (qrestore A F) post
set_option maxRecDepth 10000 in
set_option maxHeartbeats 1000000 in
theorem mX10_restore (d : Nat) (hd : 1 ≤ d) : xCT d yX10_restore cX10_restore 1 (some .int) sX10_restore := by
  obtain ⟨d, rfl⟩ : ∃ e, d = e + 1 := ⟨d - 1, by omega⟩
  refine xmet0 (tb := tX10_restore) (fl := fX10) (kc := nX10) (gs := g0) (cl := xlk [(289, false, 2, sX10_copies), (128, true, 2, xrcv 10 (sX10_finds))]) 400 (by decide) tX10_restore_ok fX10_ok nX10_ok g0_ok (xg_cons (k_X10_289 (mX10_copies d (by omega))) (xg_cons (k_X10_128 (mX10_finds d (by omega))) xg_nil)) ?_
  rintro L xs as w Qp ⟨A, F, rfl, rfl, h⟩
  refine ⟨Nat.le_of_ble_eq_true rfl, ?_⟩
  refine And.intro (fun g => ?_) (fun g => ?_)
  · have g : ¬ F 2 = 0 := g
    refine ⟨A, F, rfl, Or.inr ⟨rfl, ?_⟩⟩
    refine And.intro (vl 0 250 rfl rfl) ?_
    exact sQ_e h (cif_f' g rfl)
  · refine ⟨A, F, 2, rfl, rfl, by decide, ?_⟩
    exact sQ_e h (cif_t' (Classical.not_not.mp g) rfl)
def sX10_tell : XS := fun as w post => ∃ (A : XA) (F : Nat → Int32) (v : Int32), as = [.ref 0, .int v] ∧ w = LM A F ∧ bd (A 1 5) 21 ∧ sQ (qtell v A F) post
set_option maxRecDepth 10000 in
set_option maxHeartbeats 1000000 in
theorem mX10_tell (d : Nat) (hd : 1 ≤ d) : xCT d yX10_tell cX10_tell 2 (some .int) sX10_tell := by
  obtain ⟨d, rfl⟩ : ∃ e, d = e + 1 := ⟨d - 1, by omega⟩
  refine xmet0 (tb := tX10_tell) (fl := fX10) (kc := nX10) (gs := g0) (cl := xlk [(128, true, 2, xrcv 10 (sX10_finds))]) 400 (by decide) tX10_tell_ok fX10_ok nX10_ok g0_ok (xg_cons (k_X10_128 (mX10_finds d (by omega))) xg_nil) ?_
  rintro L xs as w Qp ⟨A, F, v, rfl, rfl, ⟨t, ht, et⟩, h⟩
  refine ⟨Nat.le_of_ble_eq_true rfl, ?_⟩
  refine And.intro (vl 5 250 rfl rfl) ?_
  refine And.intro (fun g => ?_) (fun g => ?_)
  · have g : ¬ A 1 5 = 20 := g
    have h20 : t < 20 := by
      rcases Nat.lt_or_ge t 20 with q | q
      · exact q
      · exact absurd (by rw [et, show t = 20 by omega]; rfl) g
    have ecl : (A 1 5).toNatClampNeg = t := by rw [et]; exact cl (by omega)
    have eix : (76 : Int32) + A 1 5 = nI (76 + t) := by rw [et, show (76 : Int32) = nI 76 from rfl, nI_add]
    have ein : vp_in (76 + A 1 5) 250 := by rw [eix]; exact vp_in_nI (by omega) (by decide)
    refine And.intro (vl 5 250 rfl rfl) (And.intro ein ?_)
    refine And.intro (vl 5 250 rfl rfl) (And.intro (vl 5 250 rfl rfl) (And.intro (vl 5 250 rfl rfl) ?_))
    have e1 : (76 + A 1 5).toNatClampNeg = 76 + t := by rw [eix]; exact cl (by omega)
    have e2 : upd (A 1) (76 + t) v 5 + 1 = nI (t + 1) := by rw [pk_un (by omega), et, nI_1]
    show Qp (some (.int (upd (upd (A 1) (76 + A 1 5).toNatClampNeg v) 5 (upd (A 1) (76 + A 1 5).toNatClampNeg v 5 + 1) 5))) (LM (aset (aset A 1 (upd (A 1) (76 + A 1 5).toNatClampNeg v)) 1 (upd (upd (A 1) (76 + A 1 5).toNatClampNeg v) 5 (upd (A 1) (76 + A 1 5).toNatClampNeg v 5 + 1))) F)
    rw [e1, e2, aset_aset, pk_us]
    refine sQ_e h (cif_f' g ?_)
    rw [ecl]
  · refine ⟨A, F, 4, rfl, rfl, by decide, ?_⟩
    exact sQ_e h (cif_t' (Classical.not_not.mp g) rfl)
def sX10_wishes : XS := fun as w post => ∃ (A : XA) (F : Nat → Int32) (k : Nat), as = [.ref 0] ∧ w = LM A F ∧ A 1 2 = nI k ∧ k ≤ 8 ∧ post (some (.int (nI (wsh (A 1) k)))) (LM A F)
set_option maxRecDepth 10000 in
set_option maxHeartbeats 1000000 in
theorem mX10_wishes (d : Nat) (hd : 1 ≤ d) : xCT d yX10_wishes cX10_wishes 3 (some .int) sX10_wishes := by
  obtain ⟨d, rfl⟩ : ∃ e, d = e + 1 := ⟨d - 1, by omega⟩
  refine xmet (tb := tX10_wishes) (fl := fX10) (kc := nX10) (gs := g0) (cl := xlk [(149, true, 3, xrcv 10 (sX10_its))]) (by decide) tX10_wishes_ok fX10_ok nX10_ok g0_ok (xg_cons (k_X10_149 (mX10_its d (by omega))) xg_nil) ?_
  rintro L xs as w Qp ⟨A, F, k, rfl, rfl, hk, hk8, h⟩
  refine ⟨Nat.le_of_ble_eq_true rfl, 400, xlk [(4, 3)], fun m pc ls st w => pc = 4 ∧ ∃ s, s ≤ k ∧ m = k - s ∧ ls = [(0, .ref 0), (1, .int (nI (wsh (A 1) s))), (2, .int (nI s))] ∧ st = [] ∧ w = LM A F, ?_, ?_⟩
  · exact ⟨k, rfl, 0, Nat.zero_le _, rfl, rfl, rfl, rfl⟩
  · rintro m pc m9 ls st w hc ⟨rfl, s, hs, rfl, rfl, rfl, rfl⟩
    refine And.intro (vl 2 250 rfl rfl) ?_
    refine And.intro (fun g => ?_) (fun g => ?_)
    · have := ge_n hk (by omega) (by omega) g
      rw [show s = k by omega]
      exact h
    · have hlt := nge_n hk (by omega) (by omega) g
      refine ⟨A, F, s, 5, rfl, rfl, by omega, ?_⟩
      refine And.intro (fun g2 => ?_) (fun g2 => ?_)
      · have g2 : A 1 (8 + 8 * s + 5) < 0 := g2
        refine ⟨k - (s + 1), by omega, rfl, s + 1, hlt, rfl, ?_, rfl, rfl⟩
        have e : wsh (A 1) (s + 1) = wsh (A 1) s := by
          show wsh (A 1) s + cif (0 ≤ A 1 (8 + 8 * s + 5)) 1 0 = _
          rw [cif_f ((fa_of_lt g2).2.1)]
          rfl
        rw [e, ← nI_1]
        show [(0, Value.ref 0), (1, Value.int (nI (wsh (A 1) s) + 0)), (2, Value.int (nI s + 1))] = _
        rw [show (0 : Int32) = nI 0 from rfl, nI_add]
        rfl
      · have g2 : ¬ A 1 (8 + 8 * s + 5) < 0 := g2
        refine ⟨k - (s + 1), by omega, rfl, s + 1, hlt, rfl, ?_, rfl, rfl⟩
        have e : wsh (A 1) (s + 1) = wsh (A 1) s + 1 := by
          show wsh (A 1) s + cif (0 ≤ A 1 (8 + 8 * s + 5)) 1 0 = _
          rw [cif_t (fa_of_nlt g2)]
        rw [e, ← nI_1, ← nI_1]
        rfl
theorem tI {x : Int32} (v : Nat) (hv : v < 2 ^ 31) (h : x.toInt = (v : Int)) : x = nI v := Int32.toInt_inj.mp (by rw [h, nI_toInt hv])
def sX10_count : XS := fun as w post => ∃ (A : XA) (F : Nat → Int32) (v : Int32) (k : Nat), as = [.ref 0, .int v] ∧ w = LM A F ∧ A 1 2 = nI k ∧ k ≤ 8 ∧ sQ (qcount v A F) post
set_option maxRecDepth 10000 in
set_option maxHeartbeats 1000000 in
theorem mX10_count (d : Nat) (hd : 2 ≤ d) : xCT d yX10_count cX10_count 2 (some .int) sX10_count := by
  obtain ⟨d, rfl⟩ : ∃ e, d = e + 1 := ⟨d - 1, by omega⟩
  refine xmet0 (tb := tX10_count) (fl := fX10) (kc := nX10) (gs := g0) (cl := xlk [(296, true, 1, xrcv 10 (sX10_wishes)), (128, true, 2, xrcv 10 (sX10_finds))]) 400 (by decide) tX10_count_ok fX10_ok nX10_ok g0_ok (xg_cons (k_X10_296 (mX10_wishes d (by omega))) (xg_cons (k_X10_128 (mX10_finds d (by omega))) xg_nil)) ?_
  rintro L xs as w Qp ⟨A, F, v, k, rfl, rfl, hk, hk8, h⟩
  refine ⟨Nat.le_of_ble_eq_true rfl, ?_⟩
  unfold qcount at h
  refine And.intro (And.intro (fun g => ?_) (And.intro (fun g => ?_) (And.intro (fun g => ?_) (And.intro (fun g => ?_) (And.intro (fun g => ?_) (And.intro (fun g => ?_) (And.intro (fun g => ?_) (And.intro (fun g => ?_) trivial)))))))) (fun g => ?_)
  · have e := tI 0 (by omega) g
    subst e
    exact And.intro (vl 0 250 rfl rfl) (sQ_e h (cif_t' rfl rfl))
  · have e := tI 1 (by omega) g
    subst e
    exact And.intro (vl 1 250 rfl rfl) (sQ_e h (cif_f' (by decide) (cif_t' rfl rfl)))
  · have e := tI 2 (by omega) g
    subst e
    exact And.intro (vl 2 250 rfl rfl) (sQ_e h (cif_f' (by decide) (cif_f' (by decide) (cif_t' rfl rfl))))
  · have e := tI 3 (by omega) g
    subst e
    refine ⟨A, F, k, rfl, rfl, hk, hk8, ?_⟩
    refine sQ_e h (cif_f' (by decide) (cif_f' (by decide) (cif_f' (by decide) (cif_t' rfl ?_))))
    rw [hk, cl (by omega)]
  · have e := tI 4 (by omega) g
    subst e
    exact And.intro (vl 4 250 rfl rfl) (sQ_e h (cif_f' (by decide) (cif_f' (by decide) (cif_f' (by decide) (cif_f' (by decide) (cif_t' rfl rfl))))))
  · have e := tI 5 (by omega) g
    subst e
    exact And.intro (vl 5 250 rfl rfl) (sQ_e h (cif_f' (by decide) (cif_f' (by decide) (cif_f' (by decide) (cif_f' (by decide) (cif_f' (by decide) (cif_t' rfl rfl)))))))
  · have e := tI 6 (by omega) g
    subst e
    exact sQ_e h (cif_f' (by decide) (cif_f' (by decide) (cif_f' (by decide) (cif_f' (by decide) (cif_f' (by decide) (cif_f' (by decide) (cif_t' rfl rfl)))))))
  · have e := tI 7 (by omega) g
    subst e
    exact And.intro (vl 3 250 rfl rfl) (sQ_e h (cif_f' (by decide) (cif_f' (by decide) (cif_f' (by decide) (cif_f' (by decide) (cif_f' (by decide) (cif_f' (by decide) (cif_f' (by decide) (cif_t' rfl rfl)))))))))
  · refine ⟨A, F, 1, rfl, rfl, by decide, ?_⟩
    have ne : ∀ j : Nat, j < 8 → ¬ v = nI j := by
      intro j hj e
      rw [e, nI_toInt (by omega)] at g
      omega
    exact sQ_e h (cif_f' (ne 0 (by omega)) (cif_f' (ne 1 (by omega)) (cif_f' (ne 2 (by omega)) (cif_f' (ne 3 (by omega)) (cif_f' (ne 4 (by omega)) (cif_f' (ne 5 (by omega)) (cif_f' (ne 6 (by omega)) (cif_f' (ne 7 (by omega)) rfl))))))))
def sX10_told : XS := fun as w post => ∃ (A : XA) (F : Nat → Int32) (j : Int32), as = [.ref 0, .int j] ∧ w = LM A F ∧ sQ (qtold j A F) post
set_option maxRecDepth 10000 in
set_option maxHeartbeats 1000000 in
theorem mX10_told (d : Nat) (hd : 1 ≤ d) : xCT d yX10_told cX10_told 2 (some .int) sX10_told := by
  obtain ⟨d, rfl⟩ : ∃ e, d = e + 1 := ⟨d - 1, by omega⟩
  refine xmet0 (tb := tX10_told) (fl := fX10) (kc := nX10) (gs := g0) (cl := xlk [(65, false, 3, sX10_in), (128, true, 2, xrcv 10 (sX10_finds))]) 400 (by decide) tX10_told_ok fX10_ok nX10_ok g0_ok (xg_cons (k_X10_65 (mX10_in d (by omega))) (xg_cons (k_X10_128 (mX10_finds d (by omega))) xg_nil)) ?_
  rintro L xs as w Qp ⟨A, F, j, rfl, rfl, h⟩
  refine ⟨Nat.le_of_ble_eq_true rfl, ?_⟩
  refine ⟨j, 1, 5, rfl, fun g1 g2 => ?_, fun g => ?_⟩
  · refine br_f xc_eq1 ?_
    have e : qtold j A F = (A 3 j.toNatClampNeg, A, F) := cif_t' ⟨g1, g2⟩ rfl
    obtain ⟨i, hi, rfl⟩ := rg (c := 5) (by omega) (by rw [fa_le] at g1 ⊢; exact Int.le_trans (by decide) g1) g2
    exact And.intro (vp_in_nI (by omega) (by decide)) (sQ_e h e)
  · refine br_t xc_eq0 ?_
    refine ⟨A, F, 1, rfl, rfl, by decide, ?_⟩
    exact sQ_e h (cif_f' g rfl)
theorem fedD_0 {d : Nat → Int32} {t : Nat} (x : Int64) (h : d 4 = nI t) : fedD d x t 0 = d := by
  funext j
  unfold fedD
  by_cases h4 : j = 4
  · subst h4; rw [if_pos rfl, h]; rfl
  · rw [if_neg h4, if_neg (by omega)]
theorem fedD_s (d : Nat → Int32) (x : Int64) (t c : Nat) : upd (upd (fedD d x t c) (196 + (t + c)) (byt x c)) 4 (nI (t + (c + 1))) = fedD d x t (c + 1) := by
  funext j
  by_cases h4 : j = 4
  · subst h4; rw [pk_us]; unfold fedD; rw [if_pos rfl]
  · rw [pk_un h4]
    by_cases h : j = 196 + (t + c)
    · subst h
      rw [pk_us]
      unfold fedD
      rw [if_neg (by omega), if_pos (by omega), show 196 + (t + c) - (196 + t) = c by omega]
    · rw [pk_un h]
      unfold fedD
      rw [if_neg h4, if_neg h4]
      by_cases h2 : 196 + t ≤ j ∧ j < 196 + t + c
      · rw [if_pos h2, if_pos (by omega)]
      · rw [if_neg h2, if_neg (by omega)]
def sX10_feed : XS := fun as w post => ∃ (A : XA) (F : Nat → Int32) (x : Int64) (n : Int32), as = [.ref 0, .long x, .int n] ∧ w = LM A F ∧ bd (A 1 4) 51 ∧ sQ (qfeed x n A F) post
set_option maxRecDepth 10000 in
set_option maxHeartbeats 1000000 in
theorem mX10_feed (d : Nat) (hd : 1 ≤ d) : xCT d yX10_feed cX10_feed 5 (some .int) sX10_feed := by
  obtain ⟨d, rfl⟩ : ∃ e, d = e + 1 := ⟨d - 1, by omega⟩
  refine xmet (tb := tX10_feed) (fl := fX10) (kc := nX10) (gs := g0) (cl := xlk [(65, false, 3, sX10_in), (128, true, 2, xrcv 10 (sX10_finds))]) (by decide) tX10_feed_ok fX10_ok nX10_ok g0_ok (xg_cons (k_X10_65 (mX10_in d (by omega))) (xg_cons (k_X10_128 (mX10_finds d (by omega))) xg_nil)) ?_
  rintro L xs as w Qp ⟨A, F, x, n, rfl, rfl, ⟨t, ht, et⟩, h⟩
  have ecl : (A 1 4).toNatClampNeg = t := by rw [et]; exact cl (by omega)
  refine ⟨Nat.le_of_ble_eq_true rfl, 400, xlk [(40, 5)], fun m pc ls st w => pc = 40 ∧ ∃ k c, n = nI k ∧ 1 ≤ k ∧ k ≤ 8 ∧ t + k ≤ 50 ∧ c ≤ k ∧ m = k - c ∧ ls = [(0, .ref 0), (1, .long x), (3, .int n), (4, .int (nI c))] ∧ st = [] ∧ w = LM (aset A 1 (fedD (A 1) x t c)) F, ?_, ?_⟩
  · refine ⟨n, 1, 8, rfl, fun g1 g2 => ?_, fun g => ?_⟩
    · refine br_t xc_ne1 ?_
      obtain ⟨k, hk, rfl⟩ := rg (c := 8) (by omega) (by rw [fa_le] at g1 ⊢; exact Int.le_trans (by decide) g1) g2
      have hk1 : 1 ≤ k := (nI_leI (by omega) (by omega)).mp g1
      have e4 : A 1 4 + nI k = nI (t + k) := by rw [et, nI_add]
      refine And.intro (vl 4 250 rfl rfl) ?_
      refine And.intro (fun g => ?_) (fun g => ?_)
      · have g : A 1 4 + nI k ≤ nI 50 := g
        rw [e4, nI_leI (by omega) (by omega)] at g
        refine ⟨k, rfl, k, 0, rfl, hk1, hk, g, Nat.zero_le _, rfl, rfl, rfl, ?_⟩
        rw [fedD_0 x et, aset_eta]
      · have g : ¬ A 1 4 + nI k ≤ nI 50 := g
        refine ⟨A, F, 4, rfl, rfl, by decide, ?_⟩
        exact sQ_e h (cif_t' ⟨g1, g2⟩ (cif_t' (fa_of_nle g) rfl))
    · refine br_f xc_ne0 ?_
      refine ⟨A, F, 1, rfl, rfl, by decide, ?_⟩
      exact sQ_e h (cif_f' g rfl)
  · rintro m pc m9 ls st w hc ⟨rfl, k, c, rfl, hk1, hk8, htk, hck, rfl, rfl, rfl, rfl⟩
    have ef4 : fedD (A 1) x t c 4 = nI (t + c) := by unfold fedD; rw [if_pos rfl]
    refine And.intro (fun g => ?_) (fun g => ?_)
    · have := ge_n rfl (by omega) (by omega) g
      refine And.intro (vl 4 250 rfl rfl) ?_
      have g1 : (1 : Int32) ≤ nI k := nI_le (a := 1) hk1 (by omega)
      have g2 : nI k ≤ 8 := nI_le (b := 8) hk8 (by omega)
      have g3 : ¬ 50 < A 1 4 + nI k := by
        rw [et, nI_add]
        intro q2
        have q2 : nI 50 < nI (t + k) := q2
        rw [nI_ltI (by omega) (by omega)] at q2
        omega
      have e : Qp (some (.int (fedD (A 1) x t c 4))) (LM (aset A 1 (fedD (A 1) x t c)) F) := by
        rw [ef4]
        refine sQ_e h (cif_t' ⟨g1, g2⟩ (cif_f' g3 ?_))
        rw [ecl, cl (by omega), show c = k by omega]
      exact e
    · have hlt := nge_n rfl (by omega) (by omega) g
      have eix : (196 : Int32) + fedD (A 1) x t c 4 = nI (196 + (t + c)) := by rw [ef4, show (196 : Int32) = nI 196 from rfl, nI_add]
      have ein : vp_in (196 + fedD (A 1) x t c 4) 250 := by rw [eix]; exact vp_in_nI (by omega) (by decide)
      have ei2 : (196 + fedD (A 1) x t c 4).toNatClampNeg = 196 + (t + c) := by rw [eix]; exact cl (by omega)
      refine And.intro (vl 4 250 rfl rfl) (And.intro ein (And.intro (vl 4 250 rfl rfl) (And.intro (vl 4 250 rfl rfl) ?_)))
      refine ⟨k - (c + 1), by omega, rfl, k, c + 1, rfl, hk1, hk8, htk, hlt, rfl, by rw [← nI_1]; rfl, rfl, ?_⟩
      show LM (aset (aset (aset A 1 (fedD (A 1) x t c)) 1 (upd (fedD (A 1) x t c) (196 + fedD (A 1) x t c 4).toNatClampNeg (byt x c))) 1 (upd (upd (fedD (A 1) x t c) (196 + fedD (A 1) x t c 4).toNatClampNeg (byt x c)) 4 (upd (fedD (A 1) x t c) (196 + fedD (A 1) x t c 4).toNatClampNeg (byt x c) 4 + 1))) F = _
      rw [ei2, pk_un (by omega), ef4, nI_1, aset_aset, aset_aset, ← fedD_s]
      rfl
