/-! ===== the reference: bars ===== -/
def sX10_next : XS := fun as w post => ∃ (A : XA) (F : Nat → Int32) (i n : Nat) (l s : Int32), as = [.ref 0, .int (nI i), .int l, .int s] ∧ w = LM A F ∧ i < 8 ∧ A 1 1 = nI n ∧ 2 ≤ n ∧ n ≤ 12 ∧ bd (A 1 72) 51 ∧ TXO (A 1) 0 ∧ ∀ A' F', SW A F A' F' → post (some (.int (nxt (A 1) i l s))) (LM A' F')
theorem tW {x : Int32} (v : Nat) (hv : v < 2 ^ 31) (h : x = nI v) : x.toInt = (v : Int) := by rw [h, nI_toInt hv]
set_option maxRecDepth 10000 in
set_option maxHeartbeats 1000000 in
theorem mX10_next (d : Nat) (hd : 62 ≤ d) : xCT d yX10_next cX10_next 10 (some .int) sX10_next := by
  obtain ⟨d, rfl⟩ : ∃ e, d = e + 1 := ⟨d - 1, by omega⟩
  refine xmet (tb := tX10_next) (fl := fX10) (kc := nX10) (gs := g0) (cl := xlk [(149, true, 3, xrcv 10 (sX10_its)), (137, true, 5, xrcv 10 (sX10_adds))]) (by decide) tX10_next_ok fX10_ok nX10_ok g0_ok (xg_cons (k_X10_149 (mX10_its d (by omega))) (xg_cons (k_X10_137 (mX10_adds d (by omega))) xg_nil)) ?_
  rintro L xs as w Qp ⟨A, F, i, n, l, s, rfl, rfl, hi, hn, hn2, hn12, b72, hT, h⟩
  have hN0 : ¬ (A 1 1).toInt64 = 0 := by
    intro q
    have : (A 1 1).toInt64.toInt = (0 : Int64).toInt := by rw [q]
    rw [Int32.toInt_toInt64, hn, nI_toInt (by omega)] at this
    have this : (n : Int) = 0 := this
    omega
  refine ⟨Nat.le_of_ble_eq_true rfl, 400, xlk [(20, 8), (164, 6)], fun m pc ls st w => st = [] ∧ ((pc = 20 ∧ m = 2 ∧ w = LM A F ∧ ls = [(0, .ref 0), (1, .int (nI i)), (2, .int l), (3, .int s), (4, .long l.toInt64), (6, .long (gat l s))]) ∨ (pc = 164 ∧ m = 1 ∧ ∃ A' F', SW A F A' F' ∧ w = LM A' F' ∧ ls = [(0, .ref 0), (1, .int (nI i)), (2, .int l), (3, .int s), (4, .long (vraw (A 1) (A 1 (8 + 8 * i + 0)) (A 1 (8 + 8 * i + 1)) l s (nI i)))])), ?_, ?_⟩
  · refine And.intro (fun g => ?_) (fun g => ?_)
    · have g : l = 0 := g
      refine ⟨2, rfl, Or.inl ⟨rfl, rfl, rfl, ?_⟩⟩
      unfold gat
      rw [cif_f (fun q => q.1 g)]
      rfl
    · have g : ¬ l = 0 := g
      refine And.intro (fun g2 => ?_) (fun g2 => ?_)
      · have g2 : s = 0 := g2
        refine ⟨2, rfl, Or.inl ⟨rfl, rfl, rfl, ?_⟩⟩
        unfold gat
        rw [cif_f (fun q => q.2 g2)]
        rfl
      · have g2 : ¬ s = 0 := g2
        refine ⟨2, rfl, Or.inl ⟨rfl, rfl, rfl, ?_⟩⟩
        unfold gat
        rw [cif_t ⟨g, g2⟩]
        rfl
  · rintro m pc m9 ls st w hc ⟨rfl, ⟨rfl, rfl, rfl, rfl⟩ | ⟨rfl, rfl, A', F', hs, rfl, rfl⟩⟩
    · refine ⟨A, F, i, 0, rfl, rfl, by omega, ?_⟩
      have fin : ∀ (v : Int64), vraw (A 1) (A 1 (8 + 8 * i + 0)) (A 1 (8 + 8 * i + 1)) l s (nI i) = v → ([(0, Value.ref 0), (1, Value.int (nI i)), (2, Value.int l), (3, Value.int s), (4, Value.long v)] : XL) = [(0, .ref 0), (1, .int (nI i)), (2, .int l), (3, .int s), (4, .long (vraw (A 1) (A 1 (8 + 8 * i + 0)) (A 1 (8 + 8 * i + 1)) l s (nI i)))] := by
        intro v e
        rw [e]
      refine And.intro (And.intro (fun g => ?_) (And.intro (fun g => ?_) (And.intro (fun g => ?_) (And.intro (fun g => ?_) (And.intro (fun g => ?_) (And.intro (fun g => ?_) trivial)))))) (fun g => ?_)
      · have e : A 1 (8 + 8 * i + 0) = 1 := tI 1 (by omega) g
        refine ⟨A, F, i, 1, rfl, rfl, by omega, ?_⟩
        refine ⟨1, by omega, rfl, Or.inr ⟨rfl, rfl, A, F, SW.r A F, rfl, fin _ ?_⟩⟩
        unfold vraw
        rw [cif_t e]
      · have e : A 1 (8 + 8 * i + 0) = 2 := tI 2 (by omega) g
        refine ⟨1, by omega, rfl, Or.inr ⟨rfl, rfl, A, F, SW.r A F, rfl, fin _ ?_⟩⟩
        unfold vraw
        rw [cif_f (by rw [e]; decide), cif_t e]
      · have e : A 1 (8 + 8 * i + 0) = 3 := tI 3 (by omega) g
        refine ⟨1, by omega, rfl, Or.inr ⟨rfl, rfl, A, F, SW.r A F, rfl, fin _ ?_⟩⟩
        unfold vraw
        rw [cif_f (by rw [e]; decide), cif_f (by rw [e]; decide), cif_t e]
      · have e : A 1 (8 + 8 * i + 0) = 4 := tI 4 (by omega) g
        refine ⟨A, F, i, 1, rfl, rfl, by omega, ?_⟩
        refine ⟨1, by omega, rfl, Or.inr ⟨rfl, rfl, A, F, SW.r A F, rfl, fin _ ?_⟩⟩
        unfold vraw
        rw [cif_f (by rw [e]; decide), cif_f (by rw [e]; decide), cif_f (by rw [e]; decide), cif_t e]
      · have e : A 1 (8 + 8 * i + 0) = 5 := tI 5 (by omega) g
        refine And.intro (fun g2 => ?_) (fun g2 => ?_)
        · have g2 : ¬ gat l s < s.toInt64 := fun q => by
            have g2 : lg_cmp s.toInt64 (gat l s) ≤ 0 := g2
            exact (fa_of_lt (lgc_gt.mpr q)).2.1 g2
          refine ⟨1, by omega, rfl, Or.inr ⟨rfl, rfl, A, F, SW.r A F, rfl, fin _ ?_⟩⟩
          unfold vraw
          rw [cif_f (by rw [e]; decide), cif_f (by rw [e]; decide), cif_f (by rw [e]; decide), cif_f (by rw [e]; decide), cif_t e, cif_f g2]
        · have g2 : gat l s < s.toInt64 := lgc_gt.mp (fa_of_nle g2)
          refine ⟨1, by omega, rfl, Or.inr ⟨rfl, rfl, A, F, SW.r A F, rfl, fin _ ?_⟩⟩
          unfold vraw
          rw [cif_f (by rw [e]; decide), cif_f (by rw [e]; decide), cif_f (by rw [e]; decide), cif_f (by rw [e]; decide), cif_t e, cif_t g2]
      · have e : A 1 (8 + 8 * i + 0) = 6 := tI 6 (by omega) g
        refine ⟨A, F, i, 1, rfl, rfl, by omega, ?_⟩
        refine ⟨A, F, i, 1, rfl, rfl, by omega, ?_⟩
        refine ⟨A, F, l, s, A 1 (8 + 8 * i + 1), nI i, rfl, rfl, b72, hT, fun A' F' hs => ?_⟩
        refine ⟨1, by omega, rfl, Or.inr ⟨rfl, rfl, A', F', hs, rfl, fin _ ?_⟩⟩
        unfold vraw
        rw [cif_f (by rw [e]; decide), cif_f (by rw [e]; decide), cif_f (by rw [e]; decide), cif_f (by rw [e]; decide), cif_f (by rw [e]; decide), cif_t e]
      · have ne : ∀ j : Nat, 1 ≤ j → j ≤ 6 → ¬ A 1 (8 + 8 * i + 0) = nI j := by
          intro j h1 h6 e
          have e2 := tW j (by omega) e
          have e2 : (A 1 (8 + 8 * i)).toInt = j := e2
          have g : (A 1 (8 + 8 * i)).toInt < 1 ∨ 6 < (A 1 (8 + 8 * i)).toInt := g
          omega
        refine ⟨1, by omega, rfl, Or.inr ⟨rfl, rfl, A, F, SW.r A F, rfl, fin _ ?_⟩⟩
        unfold vraw
        exact cif_f' (ne 1 (by omega) (by omega)) (cif_f' (ne 2 (by omega) (by omega)) (cif_f' (ne 3 (by omega) (by omega)) (cif_f' (ne 4 (by omega) (by omega)) (cif_f' (ne 5 (by omega) (by omega)) (cif_f' (ne 6 (by omega) (by omega)) rfl)))))
    · have e1 : A' 1 = A 1 := hs.1 1 (by omega)
      have hq := h A' F' hs
      unfold nxt crd at hq
      generalize vraw (A 1) (A 1 (8 + 8 * i + 0)) (A 1 (8 + 8 * i + 1)) l s (nI i) = v at hq
      have e11 : A' 1 1 = A 1 1 := by rw [e1]
      rw [← e11] at hq hN0
      refine And.intro (vl 1 250 rfl rfl) (And.intro hN0 ?_)
      refine And.intro (fun g => ?_) (fun g => ?_)
      · have g : ¬ v - v / (A' 1 1).toInt64 * (A' 1 1).toInt64 < 0 := fun q => (fa_of_lt (lgc_lt.mpr q)).2.1 g
        rw [cif_f g] at hq
        exact hq
      · have g : v - v / (A' 1 1).toInt64 * (A' 1 1).toInt64 < 0 := lgc_lt.mp (fa_of_nle g)
        rw [cif_t g] at hq
        exact And.intro (vl 1 250 rfl rfl) hq
noncomputable def qofSinger (s what : Int32) (A : XA) (F : Nat → Int32) : XR := cif (isS (A 1) s ∧ (0 ≤ what ∧ what ≤ 7)) (cif (what = 5) (nxt (A 1) s.toNatClampNeg (A 1 (8 + 8 * fiN (A 1) s.toNatClampNeg + 2)) (A 1 (8 + 8 * seN (A 1) s.toNatClampNeg + 2)), A, F) (cif (what = 6) (A 1 (8 + 8 * s.toNatClampNeg + 5), A, F) (cif (what = 7) (A 1 (8 + 8 * s.toNatClampNeg + 6), A, F) (A 1 (8 + 8 * s.toNatClampNeg + what.toNatClampNeg), A, F)))) (eR 1 A F)
def sX10_ofSinger : XS := fun as w post => ∃ (A : XA) (F : Nat → Int32) (s what : Int32) (n k : Nat), as = [.ref 0, .int s, .int what] ∧ w = LM A F ∧ DI (A 1) n k ∧ TXO (A 1) 0 ∧ sQ (qofSinger s what A F) post
set_option maxRecDepth 10000 in
set_option maxHeartbeats 1000000 in
theorem mX10_ofSinger (d : Nat) (hd : 63 ≤ d) : xCT d yX10_ofSinger cX10_ofSinger 3 (some .int) sX10_ofSinger := by
  obtain ⟨d, rfl⟩ : ∃ e, d = e + 1 := ⟨d - 1, by omega⟩
  refine xmet0 (tb := tX10_ofSinger) (fl := fX10) (kc := nX10) (gs := g0) (cl := xlk [(163, true, 2, xrcv 10 (sX10_isSinger)), (65, false, 3, sX10_in), (128, true, 2, xrcv 10 (sX10_finds)), (149, true, 3, xrcv 10 (sX10_its)), (168, true, 4, xrcv 10 (sX10_next))]) 400 (by decide) tX10_ofSinger_ok fX10_ok nX10_ok g0_ok (xg_cons (k_X10_163 (mX10_isSinger d (by omega))) (xg_cons (k_X10_65 (mX10_in d (by omega))) (xg_cons (k_X10_128 (mX10_finds d (by omega))) (xg_cons (k_X10_149 (mX10_its d (by omega))) (xg_cons (k_X10_168 (mX10_next d (by omega))) xg_nil))))) ?_
  rintro L xs as w Qp ⟨A, F, s, what, n, k, rfl, rfl, ⟨hn, hn2, hn12, hk, hk8, hsg, -, -, -, b72, -⟩, hT, h⟩
  refine ⟨Nat.le_of_ble_eq_true rfl, ?_⟩
  have bad : ¬ (isS (A 1) s ∧ (0 ≤ what ∧ what ≤ 7)) → Qp (some (.int (lo 1))) (LM (er A 1) F) := fun g => sQ_e h (cif_f' g rfl)
  refine ⟨A, F, s, k, rfl, rfl, hk, hk8, fun i hi es => ?_, fun g => ?_⟩
  · subst es
    have ecl : (nI i).toNatClampNeg = i := cl (by omega)
    refine br_f xc_eq1 ?_
    refine ⟨what, 0, 7, rfl, fun g1 g2 => ?_, fun g => ?_⟩
    · refine br_t xc_ne1 ?_
      have hc : isS (A 1) (nI i) ∧ 0 ≤ what ∧ what ≤ 7 := ⟨isS_i hk hk8 hi, g1, g2⟩
      unfold qofSinger at h
      rw [cif_t hc, ecl] at h
      obtain ⟨hk0, -, -, ⟨f, hf, ef⟩, ⟨e, he, ee⟩, -⟩ := hsg i hi
      refine And.intro (And.intro (fun g => ?_) (And.intro (fun g => ?_) (And.intro (fun g => ?_) trivial))) (fun g => ?_)
      · have e5 := tI 5 (by omega) g
        refine ⟨A, F, i, 3, rfl, rfl, by omega, ?_⟩
        refine ⟨A, F, f, 2, by rw [← ef]; rfl, rfl, by omega, ?_⟩
        refine ⟨A, F, i, 4, rfl, rfl, by omega, ?_⟩
        refine ⟨A, F, e, 2, by rw [← ee]; rfl, rfl, by omega, ?_⟩
        refine ⟨A, F, i, n, _, _, rfl, rfl, by omega, hn, hn2, hn12, b72, hT, fun A' F' hs => ?_⟩
        refine sQ_p h (cif_t' e5 ?_) hs.per
        unfold fiN seN
        rw [ef, ee, cl (by omega), cl (by omega)]
      · have e6 := tI 6 (by omega) g
        refine ⟨A, F, i, 5, rfl, rfl, by omega, ?_⟩
        exact sQ_e h (cif_f' (by rw [e6]; decide) (cif_t' e6 rfl))
      · have e7 := tI 7 (by omega) g
        refine ⟨A, F, i, 6, rfl, rfl, by omega, ?_⟩
        exact sQ_e h (cif_f' (by rw [e7]; decide) (cif_f' (by rw [e7]; decide) (cif_t' e7 rfl)))
      · obtain ⟨j, hj, rfl⟩ := rg (c := 7) (by omega) g1 g2
        rw [nI_toInt (by omega)] at g
        refine ⟨A, F, i, j, rfl, rfl, by omega, ?_⟩
        have ne : ∀ v : Nat, 5 ≤ v → v ≤ 7 → ¬ nI j = nI v := fun v h1 h2 q => by
          have := (nI_eq (by omega) (by omega)).mp q
          omega
        refine sQ_e h (cif_f' (ne 5 (by omega) (by omega)) (cif_f' (ne 6 (by omega) (by omega)) (cif_f' (ne 7 (by omega) (by omega)) ?_)))
        rw [cl (by omega)]
    · refine br_f xc_ne0 ?_
      refine ⟨A, F, 1, rfl, rfl, by decide, ?_⟩
      exact bad (fun q => g q.2)
  · refine br_t xc_eq0 ?_
    refine ⟨A, F, 1, rfl, rfl, by decide, ?_⟩
    exact bad (fun q => isS_n hk hk8 g q.1)
theorem nts_cp (d : Nat → Int32) (k : Nat) (r : Nat → Int32) : nts d k r = cpU (fun s => d (8 + 8 * s + 2)) r k := rfl
def sX10_begins : XS := fun as w post => ∃ (r : Nat), (r = 5 ∨ r = 6) ∧ ∃ (A : XA) (F : Nat → Int32) (k : Nat), as = [.ref 0, .ref r] ∧ w = LM A F ∧ A 1 2 = nI k ∧ k ≤ 8 ∧ post none (LM (aset A r (nts (A 1) k (A r))) F)
set_option maxRecDepth 10000 in
set_option maxHeartbeats 1000000 in
theorem mX10_begins (d : Nat) (hd : 1 ≤ d) : xCT d yX10_begins cX10_begins 3 none sX10_begins := by
  obtain ⟨d, rfl⟩ : ∃ e, d = e + 1 := ⟨d - 1, by omega⟩
  refine xmet (tb := tX10_begins) (fl := fX10) (kc := nX10) (gs := g0) (cl := xlk [(149, true, 3, xrcv 10 (sX10_its))]) (by decide) tX10_begins_ok fX10_ok nX10_ok g0_ok (xg_cons (k_X10_149 (mX10_its d (by omega))) xg_nil) ?_
  rintro L xs as w Qp ⟨r, hr, A, F, k, rfl, rfl, hk, hk8, h⟩
  rw [nts_cp] at h
  rcases hr with rfl | rfl
  · refine ⟨Nat.le_of_ble_eq_true rfl, 400, xlk [(2, 3)], fun m pc ls st w => pc = 2 ∧ ∃ s, s ≤ k ∧ m = k - s ∧ ls = [(0, .ref 0), (1, .ref 5), (2, .int (nI s))] ∧ st = [] ∧ w = LM (aset A 5 (cpU (fun s => A 1 (8 + 8 * s + 2)) (A 5) s)) F, ?_, ?_⟩
    · refine ⟨k, rfl, 0, Nat.zero_le _, rfl, rfl, rfl, ?_⟩
      rw [cpU_0, aset_eta]
    · rintro m pc m9 ls st w hc ⟨rfl, s, hs, rfl, rfl, rfl, rfl⟩
      refine And.intro (vl 2 250 rfl rfl) ?_
      refine And.intro (fun g => ?_) (fun g => ?_)
      · have := ge_n hk (by omega) (by omega) g
        rw [show s = k by omega]
        exact h
      · have hlt := nge_n hk (by omega) (by omega) g
        refine ⟨_, F, s, 2, rfl, rfl, by omega, ?_⟩
        refine And.intro (vp_in_nI (by omega) (by decide)) ?_
        refine ⟨k - (s + 1), by omega, rfl, s + 1, hlt, rfl, by rw [← nI_1]; rfl, rfl, ?_⟩
        show LM (aset (aset A 5 (cpU (fun s => A 1 (8 + 8 * s + 2)) (A 5) s)) 5 (upd (cpU (fun s => A 1 (8 + 8 * s + 2)) (A 5) s) (nI s).toNatClampNeg (A 1 (8 + 8 * s + 2)))) F = _
        rw [aset_aset, cl (by omega)]
        exact congrArg (fun B => LM (aset A 5 B) F) (cpU_s (fun s => A 1 (8 + 8 * s + 2)) (A 5) s)
  · refine ⟨Nat.le_of_ble_eq_true rfl, 400, xlk [(2, 3)], fun m pc ls st w => pc = 2 ∧ ∃ s, s ≤ k ∧ m = k - s ∧ ls = [(0, .ref 0), (1, .ref 6), (2, .int (nI s))] ∧ st = [] ∧ w = LM (aset A 6 (cpU (fun s => A 1 (8 + 8 * s + 2)) (A 6) s)) F, ?_, ?_⟩
    · refine ⟨k, rfl, 0, Nat.zero_le _, rfl, rfl, rfl, ?_⟩
      rw [cpU_0, aset_eta]
    · rintro m pc m9 ls st w hc ⟨rfl, s, hs, rfl, rfl, rfl, rfl⟩
      refine And.intro (vl 2 250 rfl rfl) ?_
      refine And.intro (fun g => ?_) (fun g => ?_)
      · have := ge_n hk (by omega) (by omega) g
        rw [show s = k by omega]
        exact h
      · have hlt := nge_n hk (by omega) (by omega) g
        refine ⟨_, F, s, 2, rfl, rfl, by omega, ?_⟩
        refine And.intro (vp_in_nI (by omega) (by decide)) ?_
        refine ⟨k - (s + 1), by omega, rfl, s + 1, hlt, rfl, by rw [← nI_1]; rfl, rfl, ?_⟩
        show LM (aset (aset A 6 (cpU (fun s => A 1 (8 + 8 * s + 2)) (A 6) s)) 6 (upd (cpU (fun s => A 1 (8 + 8 * s + 2)) (A 6) s) (nI s).toNatClampNeg (A 1 (8 + 8 * s + 2)))) F = _
        rw [aset_aset, cl (by omega)]
        exact congrArg (fun B => LM (aset A 6 B) F) (cpU_s (fun s => A 1 (8 + 8 * s + 2)) (A 6) s)
def RS (r : Nat) (A : XA) (F : Nat → Int32) (A' : XA) (F' : Nat → Int32) : Prop := (∀ p, p ≠ 4 → p ≠ 7 → p ≠ r → A' p = A p) ∧ FW F F'
def sX10_goesBy : XS := fun as w post => ∃ (r : Nat), (r = 5 ∨ r = 6) ∧ ∃ (A : XA) (F : Nat → Int32) (n k : Nat), as = [.ref 0, .ref r] ∧ w = LM A F ∧ DI (A 1) n k ∧ TXO (A 1) 0 ∧ ∀ A' F', A' r = stp (A 1) k (A r) → RS r A F A' F' → post none (LM A' F')
set_option maxRecDepth 10000 in
set_option maxHeartbeats 1000000 in
theorem mX10_goesBy (d : Nat) (hd : 63 ≤ d) : xCT d yX10_goesBy cX10_goesBy 3 none sX10_goesBy := by
  obtain ⟨d, rfl⟩ : ∃ e, d = e + 1 := ⟨d - 1, by omega⟩
  refine xmet (tb := tX10_goesBy) (fl := fX10) (kc := nX10) (gs := g0) (cl := xlk [(149, true, 3, xrcv 10 (sX10_its)), (168, true, 4, xrcv 10 (sX10_next))]) (by decide) tX10_goesBy_ok fX10_ok nX10_ok g0_ok (xg_cons (k_X10_149 (mX10_its d (by omega))) (xg_cons (k_X10_168 (mX10_next d (by omega))) xg_nil)) ?_
  rintro L xs as w Qp ⟨r, hr, A, F, n, k, rfl, rfl, ⟨hn, hn2, hn12, hk, hk8, hsg, -, -, -, b72, -⟩, hT, h⟩
  rcases hr with rfl | rfl
  · refine ⟨Nat.le_of_ble_eq_true rfl, 400, xlk [(2, 3), (47, 3)], fun m pc ls st w => st = [] ∧ ∃ s A' F', s ≤ k ∧ ls = [(0, .ref 0), (1, .ref 5), (2, .int (nI s))] ∧ w = LM A' F' ∧ RS 5 A F A' F' ∧ ((pc = 2 ∧ m = 20 - s ∧ A' 5 = A 5 ∧ ∀ t, t < s → A' 7 t = stp (A 1) k (A 5) t) ∨ (pc = 47 ∧ m = 10 - s ∧ A' 5 = cpU (stp (A 1) k (A 5)) (A 5) s ∧ ∀ t, t < k → A' 7 t = stp (A 1) k (A 5) t)), ?_, ?_⟩
    · exact ⟨20, rfl, 0, A, F, Nat.zero_le _, rfl, rfl, ⟨fun _ _ _ _ => rfl, fun _ _ => rfl⟩, Or.inl ⟨rfl, rfl, rfl, fun t ht => absurd ht (Nat.not_lt_zero _)⟩⟩
    · rintro m pc m9 ls st w hc ⟨rfl, s, A', F', hs, rfl, rfl, hRS, ⟨rfl, rfl, hr, h7⟩ | ⟨rfl, rfl, hr, h7⟩⟩
      · have e1 : A' 1 = A 1 := hRS.1 1 (by omega) (by omega) (by omega)
        have hk' : A' 1 2 = nI k := by rw [e1]; exact hk
        refine And.intro (vl 2 250 rfl rfl) ?_
        refine And.intro (fun g => ?_) (fun g => ?_)
        · have := ge_n hk' (by omega) (by omega) g
          refine ⟨10, by omega, rfl, 0, A', F', Nat.zero_le _, rfl, rfl, hRS, Or.inr ⟨rfl, rfl, by rw [cpU_0]; exact hr, fun t ht => h7 t (by omega)⟩⟩
        · have hlt := nge_n hk' (by omega) (by omega) g
          obtain ⟨-, -, -, ⟨f, hf, ef⟩, ⟨e, he, ee⟩, -⟩ := hsg s hlt
          have ef' : A' 1 (8 + 8 * s + 3) = nI f := by rw [e1]; exact ef
          have ee' : A' 1 (8 + 8 * s + 4) = nI e := by rw [e1]; exact ee
          refine ⟨A', F', s, 3, rfl, rfl, by omega, ?_⟩
          refine And.intro (by rw [ef']; exact vp_in_nI (by omega) (by decide)) ?_
          refine ⟨A', F', s, 4, rfl, rfl, by omega, ?_⟩
          refine And.intro (by rw [ee']; exact vp_in_nI (by omega) (by decide)) ?_
          refine ⟨A', F', s, n, A' 5 (A' 1 (8 + 8 * s + 3)).toNatClampNeg, A' 5 (A' 1 (8 + 8 * s + 4)).toNatClampNeg, rfl, rfl, by omega, by rw [e1]; exact hn, hn2, hn12, by rw [e1]; exact b72, by rw [e1]; exact hT, fun A2 F2 hs2 => ?_⟩
          refine And.intro (vp_in_nI (by omega) (by decide)) ?_
          have e7 : A2 7 = A' 7 := hs2.1 7 (by omega)
          refine ⟨20 - (s + 1), by omega, rfl, s + 1, aset A2 7 (upd (A2 7) (nI s).toNatClampNeg (nxt (A' 1) s (A' 5 (A' 1 (8 + 8 * s + 3)).toNatClampNeg) (A' 5 (A' 1 (8 + 8 * s + 4)).toNatClampNeg))), F2, hlt, by rw [← nI_1]; rfl, rfl, ⟨fun p p4 p7 pr => (aset_n p7).trans ((hs2.1 p p4).trans (hRS.1 p p4 p7 pr)), fun q hq => (hs2.2 q hq).trans (hRS.2 q hq)⟩, Or.inl ⟨rfl, rfl, ?_, fun t ht => ?_⟩⟩
          · rw [aset_n (by omega), hs2.1 5 (by omega), hr]
          · rw [aset_s, cl (by omega), e7, e1, hr]
            by_cases q : t = s
            · subst q
              rw [pk_us]
              unfold stp fiN seN
              rw [if_pos hlt]
            · rw [pk_un q]
              exact h7 t (by omega)
      · have e1 : A' 1 = A 1 := hRS.1 1 (by omega) (by omega) (by omega)
        have hk' : A' 1 2 = nI k := by rw [e1]; exact hk
        refine And.intro (vl 2 250 rfl rfl) ?_
        refine And.intro (fun g => ?_) (fun g => ?_)
        · have := ge_n hk' (by omega) (by omega) g
          refine h A' F' ?_ hRS
          rw [hr, show s = k by omega]
          funext t
          unfold cpU
          by_cases q : t < k
          · rw [if_pos q]
          · rw [if_neg q]
            unfold stp
            rw [if_neg q]
        · have hlt := nge_n hk' (by omega) (by omega) g
          refine And.intro (vp_in_nI (by omega) (by decide)) (And.intro (vp_in_nI (by omega) (by decide)) ?_)
          refine ⟨10 - (s + 1), by omega, rfl, s + 1, aset A' 5 (upd (A' 5) (nI s).toNatClampNeg (A' 7 (nI s).toNatClampNeg)), F', hlt, by rw [← nI_1]; rfl, rfl, ⟨fun p p4 p7 pr => (aset_n pr).trans (hRS.1 p p4 p7 pr), hRS.2⟩, Or.inr ⟨rfl, rfl, ?_, fun t ht => ?_⟩⟩
          · rw [aset_s, cl (by omega), hr, h7 s hlt, cpU_s]
          · rw [aset_n (by omega)]
            exact h7 t ht
  · refine ⟨Nat.le_of_ble_eq_true rfl, 400, xlk [(2, 3), (47, 3)], fun m pc ls st w => st = [] ∧ ∃ s A' F', s ≤ k ∧ ls = [(0, .ref 0), (1, .ref 6), (2, .int (nI s))] ∧ w = LM A' F' ∧ RS 6 A F A' F' ∧ ((pc = 2 ∧ m = 20 - s ∧ A' 6 = A 6 ∧ ∀ t, t < s → A' 7 t = stp (A 1) k (A 6) t) ∨ (pc = 47 ∧ m = 10 - s ∧ A' 6 = cpU (stp (A 1) k (A 6)) (A 6) s ∧ ∀ t, t < k → A' 7 t = stp (A 1) k (A 6) t)), ?_, ?_⟩
    · exact ⟨20, rfl, 0, A, F, Nat.zero_le _, rfl, rfl, ⟨fun _ _ _ _ => rfl, fun _ _ => rfl⟩, Or.inl ⟨rfl, rfl, rfl, fun t ht => absurd ht (Nat.not_lt_zero _)⟩⟩
    · rintro m pc m9 ls st w hc ⟨rfl, s, A', F', hs, rfl, rfl, hRS, ⟨rfl, rfl, hr, h7⟩ | ⟨rfl, rfl, hr, h7⟩⟩
      · have e1 : A' 1 = A 1 := hRS.1 1 (by omega) (by omega) (by omega)
        have hk' : A' 1 2 = nI k := by rw [e1]; exact hk
        refine And.intro (vl 2 250 rfl rfl) ?_
        refine And.intro (fun g => ?_) (fun g => ?_)
        · have := ge_n hk' (by omega) (by omega) g
          refine ⟨10, by omega, rfl, 0, A', F', Nat.zero_le _, rfl, rfl, hRS, Or.inr ⟨rfl, rfl, by rw [cpU_0]; exact hr, fun t ht => h7 t (by omega)⟩⟩
        · have hlt := nge_n hk' (by omega) (by omega) g
          obtain ⟨-, -, -, ⟨f, hf, ef⟩, ⟨e, he, ee⟩, -⟩ := hsg s hlt
          have ef' : A' 1 (8 + 8 * s + 3) = nI f := by rw [e1]; exact ef
          have ee' : A' 1 (8 + 8 * s + 4) = nI e := by rw [e1]; exact ee
          refine ⟨A', F', s, 3, rfl, rfl, by omega, ?_⟩
          refine And.intro (by rw [ef']; exact vp_in_nI (by omega) (by decide)) ?_
          refine ⟨A', F', s, 4, rfl, rfl, by omega, ?_⟩
          refine And.intro (by rw [ee']; exact vp_in_nI (by omega) (by decide)) ?_
          refine ⟨A', F', s, n, A' 6 (A' 1 (8 + 8 * s + 3)).toNatClampNeg, A' 6 (A' 1 (8 + 8 * s + 4)).toNatClampNeg, rfl, rfl, by omega, by rw [e1]; exact hn, hn2, hn12, by rw [e1]; exact b72, by rw [e1]; exact hT, fun A2 F2 hs2 => ?_⟩
          refine And.intro (vp_in_nI (by omega) (by decide)) ?_
          have e7 : A2 7 = A' 7 := hs2.1 7 (by omega)
          refine ⟨20 - (s + 1), by omega, rfl, s + 1, aset A2 7 (upd (A2 7) (nI s).toNatClampNeg (nxt (A' 1) s (A' 6 (A' 1 (8 + 8 * s + 3)).toNatClampNeg) (A' 6 (A' 1 (8 + 8 * s + 4)).toNatClampNeg))), F2, hlt, by rw [← nI_1]; rfl, rfl, ⟨fun p p4 p7 pr => (aset_n p7).trans ((hs2.1 p p4).trans (hRS.1 p p4 p7 pr)), fun q hq => (hs2.2 q hq).trans (hRS.2 q hq)⟩, Or.inl ⟨rfl, rfl, ?_, fun t ht => ?_⟩⟩
          · rw [aset_n (by omega), hs2.1 6 (by omega), hr]
          · rw [aset_s, cl (by omega), e7, e1, hr]
            by_cases q : t = s
            · subst q
              rw [pk_us]
              unfold stp fiN seN
              rw [if_pos hlt]
            · rw [pk_un q]
              exact h7 t (by omega)
      · have e1 : A' 1 = A 1 := hRS.1 1 (by omega) (by omega) (by omega)
        have hk' : A' 1 2 = nI k := by rw [e1]; exact hk
        refine And.intro (vl 2 250 rfl rfl) ?_
        refine And.intro (fun g => ?_) (fun g => ?_)
        · have := ge_n hk' (by omega) (by omega) g
          refine h A' F' ?_ hRS
          rw [hr, show s = k by omega]
          funext t
          unfold cpU
          by_cases q : t < k
          · rw [if_pos q]
          · rw [if_neg q]
            unfold stp
            rw [if_neg q]
        · have hlt := nge_n hk' (by omega) (by omega) g
          refine And.intro (vp_in_nI (by omega) (by decide)) (And.intro (vp_in_nI (by omega) (by decide)) ?_)
          refine ⟨10 - (s + 1), by omega, rfl, s + 1, aset A' 6 (upd (A' 6) (nI s).toNatClampNeg (A' 7 (nI s).toNatClampNeg)), F', hlt, by rw [← nI_1]; rfl, rfl, ⟨fun p p4 p7 pr => (aset_n pr).trans (hRS.1 p p4 p7 pr), hRS.2⟩, Or.inr ⟨rfl, rfl, ?_, fun t ht => ?_⟩⟩
          · rw [aset_s, cl (by omega), hr, h7 s hlt, cpU_s]
          · rw [aset_n (by omega)]
            exact h7 t ht
def sX10_goesOn : XS := fun as w post => ∃ (r : Nat), (r = 5 ∨ r = 6) ∧ ∃ (A : XA) (F : Nat → Int32) (n k m : Nat), as = [.ref 0, .ref r, .int (nI m)] ∧ w = LM A F ∧ DI (A 1) n k ∧ TXO (A 1) 0 ∧ m < 1000 ∧ ∀ A' F', A' r = itr (A 1) k m (A r) → RS r A F A' F' → post none (LM A' F')
set_option maxRecDepth 10000 in
set_option maxHeartbeats 1000000 in
theorem mX10_goesOn (d : Nat) (hd : 64 ≤ d) : xCT d yX10_goesOn cX10_goesOn 4 none sX10_goesOn := by
  obtain ⟨d, rfl⟩ : ∃ e, d = e + 1 := ⟨d - 1, by omega⟩
  refine xmet (tb := tX10_goesOn) (fl := fX10) (kc := nX10) (gs := g0) (cl := xlk [(178, true, 2, xrcv 10 (sX10_goesBy))]) (by decide) tX10_goesOn_ok fX10_ok nX10_ok g0_ok (xg_cons (k_X10_178 (mX10_goesBy d (by omega))) xg_nil) ?_
  rintro L xs as w Qp ⟨r, hr, A, F, n, k, m1, rfl, rfl, hI, hT, hm, h⟩
  rcases hr with rfl | rfl
  · refine ⟨Nat.le_of_ble_eq_true rfl, 400, xlk [(2, 4)], fun m pc ls st w => pc = 2 ∧ st = [] ∧ ∃ s A' F', s ≤ m1 ∧ m = m1 - s ∧ ls = [(0, .ref 0), (1, .ref 5), (2, .int (nI m1)), (3, .int (nI s))] ∧ w = LM A' F' ∧ RS 5 A F A' F' ∧ A' 5 = itr (A 1) k s (A 5), ?_, ?_⟩
    · exact ⟨m1, rfl, rfl, 0, A, F, Nat.zero_le _, rfl, rfl, rfl, ⟨fun _ _ _ _ => rfl, fun _ _ => rfl⟩, rfl⟩
    · rintro m pc m9 ls st w hc ⟨rfl, rfl, s, A', F', hs, rfl, rfl, rfl, hRS, hr⟩
      have e1 : A' 1 = A 1 := hRS.1 1 (by omega) (by omega) (by omega)
      refine And.intro (fun g => ?_) (fun g => ?_)
      · have := ge_n rfl (by omega) (by omega) g
        exact h A' F' (by rw [hr, show s = m1 by omega]) hRS
      · have hlt := nge_n rfl (by omega) (by omega) g
        refine ⟨5, by omega, A', F', n, k, rfl, rfl, by rw [e1]; exact hI, by rw [e1]; exact hT, fun A2 F2 h2 hR2 => ?_⟩
        refine ⟨m1 - (s + 1), by omega, rfl, rfl, s + 1, A2, F2, hlt, rfl, by rw [← nI_1]; rfl, rfl, ⟨fun p p4 p7 pr => (hR2.1 p p4 p7 pr).trans (hRS.1 p p4 p7 pr), fun q hq => (hR2.2 q hq).trans (hRS.2 q hq)⟩, ?_⟩
        rw [h2, e1, hr]
        rfl
  · refine ⟨Nat.le_of_ble_eq_true rfl, 400, xlk [(2, 4)], fun m pc ls st w => pc = 2 ∧ st = [] ∧ ∃ s A' F', s ≤ m1 ∧ m = m1 - s ∧ ls = [(0, .ref 0), (1, .ref 6), (2, .int (nI m1)), (3, .int (nI s))] ∧ w = LM A' F' ∧ RS 6 A F A' F' ∧ A' 6 = itr (A 1) k s (A 6), ?_, ?_⟩
    · exact ⟨m1, rfl, rfl, 0, A, F, Nat.zero_le _, rfl, rfl, rfl, ⟨fun _ _ _ _ => rfl, fun _ _ => rfl⟩, rfl⟩
    · rintro m pc m9 ls st w hc ⟨rfl, rfl, s, A', F', hs, rfl, rfl, rfl, hRS, hr⟩
      have e1 : A' 1 = A 1 := hRS.1 1 (by omega) (by omega) (by omega)
      refine And.intro (fun g => ?_) (fun g => ?_)
      · have := ge_n rfl (by omega) (by omega) g
        exact h A' F' (by rw [hr, show s = m1 by omega]) hRS
      · have hlt := nge_n rfl (by omega) (by omega) g
        refine ⟨6, by omega, A', F', n, k, rfl, rfl, by rw [e1]; exact hI, by rw [e1]; exact hT, fun A2 F2 h2 hR2 => ?_⟩
        refine ⟨m1 - (s + 1), by omega, rfl, rfl, s + 1, A2, F2, hlt, rfl, by rw [← nI_1]; rfl, rfl, ⟨fun p p4 p7 pr => (hR2.1 p p4 p7 pr).trans (hRS.1 p p4 p7 pr), fun q hq => (hR2.2 q hq).trans (hRS.2 q hq)⟩, ?_⟩
        rw [h2, e1, hr]
        rfl
theorem endD_0 (d r : Nat → Int32) : endD d r 0 = d := by
  funext j
  unfold endD
  rw [if_neg (by omega)]
theorem endD_s (d r : Nat → Int32) (c : Nat) : upd (endD d r c) (8 + 8 * c + 2) (r c) = endD d r (c + 1) := by
  funext j
  by_cases h : j = 8 + 8 * c + 2
  · subst h
    rw [pk_us]
    unfold endD
    have e1 : (8 + 8 * c + 2 - 8) / 8 = c := by omega
    rw [if_pos (by omega), e1]
  · rw [pk_un h]
    unfold endD
    by_cases h2 : 8 ≤ j ∧ (j - 8) / 8 < c ∧ (j - 8) % 8 = 2
    · rw [if_pos h2, if_pos (by omega)]
    · rw [if_neg h2, if_neg (by omega)]
theorem endD_at {d r : Nat → Int32} {c j : Nat} (h : j < 8) : endD d r c j = d j := by
  unfold endD
  rw [if_neg (by omega)]
def sX10_ends : XS := fun as w post => ∃ (A : XA) (F : Nat → Int32) (k : Nat), as = [.ref 0, .ref 5] ∧ w = LM A F ∧ A 1 2 = nI k ∧ k ≤ 8 ∧ post none (LM (aset A 1 (endD (A 1) (A 5) k)) F)
set_option maxRecDepth 10000 in
set_option maxHeartbeats 1000000 in
theorem mX10_ends (d : Nat) (hd : 1 ≤ d) : xCT d yX10_ends cX10_ends 3 none sX10_ends := by
  obtain ⟨d, rfl⟩ : ∃ e, d = e + 1 := ⟨d - 1, by omega⟩
  refine xmet (tb := tX10_ends) (fl := fX10) (kc := nX10) (gs := g0) (cl := xlk [(152, true, 4, xrcv 10 (sX10_becomes))]) (by decide) tX10_ends_ok fX10_ok nX10_ok g0_ok (xg_cons (k_X10_152 (mX10_becomes d (by omega))) xg_nil) ?_
  rintro L xs as w Qp ⟨A, F, k, rfl, rfl, hk, hk8, h⟩
  refine ⟨Nat.le_of_ble_eq_true rfl, 400, xlk [(2, 3)], fun m pc ls st w => pc = 2 ∧ ∃ s, s ≤ k ∧ m = k - s ∧ ls = [(0, .ref 0), (1, .ref 5), (2, .int (nI s))] ∧ st = [] ∧ w = LM (aset A 1 (endD (A 1) (A 5) s)) F, ?_, ?_⟩
  · refine ⟨k, rfl, 0, Nat.zero_le _, rfl, rfl, rfl, ?_⟩
    rw [endD_0, aset_eta]
  · rintro m pc m9 ls st w hc ⟨rfl, s, hs, rfl, rfl, rfl, rfl⟩
    have hk' : endD (A 1) (A 5) s 2 = nI k := by rw [endD_at (by omega)]; exact hk
    refine And.intro (vl 2 250 rfl rfl) ?_
    refine And.intro (fun g => ?_) (fun g => ?_)
    · have := ge_n hk' (by omega) (by omega) g
      rw [show s = k by omega]
      exact h
    · have hlt := nge_n hk' (by omega) (by omega) g
      refine And.intro (vp_in_nI (by omega) (by decide)) ?_
      refine ⟨_, F, s, 2, _, rfl, rfl, by omega, ?_⟩
      refine ⟨k - (s + 1), by omega, rfl, s + 1, hlt, rfl, by rw [← nI_1]; rfl, rfl, ?_⟩
      show LM (aset (aset A 1 (endD (A 1) (A 5) s)) 1 (upd (endD (A 1) (A 5) s) (8 + 8 * s + 2) (A 5 (nI s).toNatClampNeg))) F = _
      rw [aset_aset, cl (by omega), endD_s]
