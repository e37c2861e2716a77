/-! ===== the reference: worked, text, adds, worth, law ===== -/
def FW (F F' : Nat → Int32) : Prop := ∀ k, ¬ (4 ≤ k ∧ k ≤ 9) → F' k = F k
def sX10_worked : XS := fun as w post => ∃ (A : XA) (F : Nat → Int32) (base n u : Nat), as = [.ref 0, .int (nI base), .int (nI n), .int (nI u)] ∧ w = LM A F ∧ u < 2 ∧ base + n ≤ 250 ∧ n ≤ 50 ∧
  ((PR (bb A base) n u 0 0 0).1 = true ∧ (PR (bb A base) n u 0 0 0).2.1 = n → ∀ F', FW F F' → F' 7 = -1 → post (some (.int (VV (A 4) (PR (bb A base) n u 0 0 0).2.2))) (LM A F')) ∧
  (¬ ((PR (bb A base) n u 0 0 0).1 = true ∧ (PR (bb A base) n u 0 0 0).2.1 = n) → ∀ v F', FW F F' → F' 7 = nI (PR (bb A base) n u 0 0 0).2.1 → post (some (.int v)) (LM A F'))
set_option maxRecDepth 10000 in
set_option maxHeartbeats 1000000 in
theorem mX10_worked (d : Nat) (hd : 60 ≤ d) : xCT d yX10_worked cX10_worked 5 (some .int) sX10_worked := by
  obtain ⟨d, rfl⟩ : ∃ e, d = e + 1 := ⟨d - 1, by omega⟩
  refine xmet0 (tb := tX10_worked) (fl := fX10) (kc := nX10) (gs := g0) (cl := xlk [(115, true, 1, xrcv 10 (sP 0 5)), (112, true, 1, xrcv 10 sX10_wrong)]) 400 (by decide) tX10_worked_ok fX10_ok nX10_ok g0_ok (xg_cons (k_X10_115 (pX10_all 5 d (by omega)).1) (xg_cons (k_X10_112 (mX10_wrong d (by omega))) xg_nil)) ?_
  rintro L xs as w Qp ⟨A, F, base, n, u, rfl, rfl, hu, hbn, hn, h1, h2⟩
  refine ⟨Nat.le_of_ble_eq_true rfl, ?_⟩
  have hle : (PR (bb A base) n u 0 0 0).2.1 ≤ n := PRle (Nat.zero_le _)
  have key : ∀ F1 : Nat → Int32, PS F1 base 0 n 0 u → FW F F1 → (PR (bb A base) n u 0 0 0).1 = true → (xcond .ge (nI (PR (bb A base) n u 0 0 0).2.1) (nI n) → Qp (some (.int (VV (A 4) (PR (bb A base) n u 0 0 0).2.2))) (LM A (fset F1 5 (nI (PR (bb A base) n u 0 0 0).2.1)))) ∧ (¬ xcond .ge (nI (PR (bb A base) n u 0 0 0).2.1) (nI n) → Qp (some (.int 0)) (LM A (fset (fset F1 5 (nI (PR (bb A base) n u 0 0 0).2.1)) 7 (nI (PR (bb A base) n u 0 0 0).2.1)))) := by
    intro F1 hPS hW hok
    refine ⟨fun g => ?_, fun g => ?_⟩
    · have := ge_n rfl (by omega) (by omega) g
      exact h1 ⟨hok, by omega⟩ _ (fun k hk => (fset_n (by omega)).trans (hW k hk)) hPS.2.2.2.1
    · have := nge_n rfl (by omega) (by omega) g
      exact h2 (fun q => by omega) 0 _ (fun k hk => (fset_n (by omega)).trans ((fset_n (by omega)).trans (hW k hk))) rfl
  rcases (show u = 0 ∨ u = 1 by omega) with hu0 | hu1
  · subst hu0
    refine br_t (show ¬ nI 0 = (1 : Int32) by decide) ?_
    refine And.intro (Or.inl rfl) ?_
    have hPS1 : PS (fset (fset (fset (fset (fset (fset F 4 (nI base)) 5 0) 6 (nI n)) 7 (-1)) 8 0) 9 0) base 0 n 0 0 := ⟨rfl, rfl, rfl, rfl, rfl, rfl, by omega, hbn, hn, Nat.zero_le _⟩
    have hW1 : FW F (fset (fset (fset (fset (fset (fset F 4 (nI base)) 5 0) 6 (nI n)) 7 (-1)) 8 0) 9 0) := fun k hk => (fset_n (by omega)).trans ((fset_n (by omega)).trans ((fset_n (by omega)).trans ((fset_n (by omega)).trans ((fset_n (by omega)).trans (fset_n (by omega))))))
    refine ⟨A, _, base, 0, n, 0, _, rfl, rfl, hPS1, by omega, by omega, fun hok => ?_, fun hb v F' hF => ?_⟩
    · refine br_f m1n ?_
      refine And.intro (fun g => (key _ hPS1 hW1 hok).1 g) (fun g => ?_)
      exact ⟨A, _, rfl, rfl, Or.inl ⟨(show (-1 : Int32) < 0 by decide), (key _ hPS1 hW1 hok).2 g⟩⟩
    · refine br_t (FB_pos hF (by omega)) ?_
      exact h2 (fun q => by rw [hb] at q; cases q.1) v F' (fun k hk => (hF.2 k (by omega) (by omega) (by omega)).trans (hW1 k hk)) hF.1
  · subst hu1
    refine br_f (show ¬ ¬ nI 1 = (1 : Int32) from fun q => q rfl) ?_
    refine And.intro (Or.inr rfl) ?_
    have hPS1 : PS (fset (fset (fset (fset (fset (fset F 4 (nI base)) 5 0) 6 (nI n)) 7 (-1)) 8 0) 9 1) base 0 n 0 1 := ⟨rfl, rfl, rfl, rfl, rfl, rfl, by omega, hbn, hn, Nat.zero_le _⟩
    have hW1 : FW F (fset (fset (fset (fset (fset (fset F 4 (nI base)) 5 0) 6 (nI n)) 7 (-1)) 8 0) 9 1) := fun k hk => (fset_n (by omega)).trans ((fset_n (by omega)).trans ((fset_n (by omega)).trans ((fset_n (by omega)).trans ((fset_n (by omega)).trans (fset_n (by omega))))))
    refine ⟨A, _, base, 0, n, 0, _, rfl, rfl, hPS1, by omega, by omega, fun hok => ?_, fun hb v F' hF => ?_⟩
    · refine br_f m1n ?_
      refine And.intro (fun g => (key _ hPS1 hW1 hok).1 g) (fun g => ?_)
      exact ⟨A, _, rfl, rfl, Or.inl ⟨(show (-1 : Int32) < 0 by decide), (key _ hPS1 hW1 hok).2 g⟩⟩
    · refine br_t (FB_pos hF (by omega)) ?_
      exact h2 (fun q => by rw [hb] at q; cases q.1) v F' (fun k hk => (hF.2 k (by omega) (by omega) (by omega)).trans (hW1 k hk)) hF.1
theorem txtD_0 (d : Nat → Int32) (u n : Nat) : txtD d u n 0 = upd d (72 + u) (nI n) := by
  funext j
  unfold txtD
  by_cases h : j = 72 + u
  · subst h
    rw [if_pos rfl, pk_us]
  · rw [if_neg h, if_neg (by omega), pk_un h]
theorem txtD_s {d : Nat → Int32} {u n c : Nat} (hu : u < 2) : upd (txtD d u n c) (96 + 50 * u + c) (d (196 + c)) = txtD d u n (c + 1) := by
  funext j
  by_cases h : j = 96 + 50 * u + c
  · subst h
    rw [pk_us]
    unfold txtD
    rw [if_neg (by omega), if_pos (by omega), show 96 + 50 * u + c - (96 + 50 * u) = c by omega]
  · rw [pk_un h]
    unfold txtD
    by_cases h2 : j = 72 + u
    · rw [if_pos h2, if_pos h2]
    · rw [if_neg h2, if_neg h2]
      by_cases h3 : 96 + 50 * u ≤ j ∧ j < 96 + 50 * u + c
      · rw [if_pos h3, if_pos (by omega)]
      · rw [if_neg h3, if_neg (by omega)]
theorem txtD_hi {d : Nat → Int32} {u n c j : Nat} (hu : u < 2) (hc : c ≤ 50) (hj : 196 ≤ j) : txtD d u n c j = d j := by
  unfold txtD
  rw [if_neg (by omega), if_neg (by omega)]
def sX10_text : XS := fun as w post => ∃ (A : XA) (F : Nat → Int32) (use : Int32), as = [.ref 0, .int use] ∧ w = LM A F ∧ bd (A 1 4) 51 ∧ sQ (qtext use A F) post
set_option maxRecDepth 10000 in
set_option maxHeartbeats 1000000 in
theorem mX10_text (d : Nat) (hd : 61 ≤ d) : xCT d yX10_text cX10_text 5 (some .int) sX10_text := by
  obtain ⟨d, rfl⟩ : ∃ e, d = e + 1 := ⟨d - 1, by omega⟩
  refine xmet (tb := tX10_text) (fl := fX10) (kc := nX10) (gs := g0) (cl := xlk [(65, false, 3, sX10_in), (128, true, 2, xrcv 10 (sX10_finds)), (133, true, 4, xrcv 10 (sX10_worked))]) (by decide) tX10_text_ok fX10_ok nX10_ok g0_ok (xg_cons (k_X10_65 (mX10_in d (by omega))) (xg_cons (k_X10_128 (mX10_finds d (by omega))) (xg_cons (k_X10_133 (mX10_worked d (by omega))) xg_nil))) ?_
  rintro L xs as w Qp ⟨A, F, use, rfl, rfl, ⟨n, hn, en⟩, h⟩
  have ecl : (A 1 4).toNatClampNeg = n := by rw [en]; exact cl (by omega)
  have ebb : bb (aset A 1 (upd (A 1) 4 0)) 196 = bb A 196 := by
    funext j
    show upd (A 1) 4 0 (196 + j) = A 1 (196 + j)
    exact pk_un (by omega)
  refine ⟨Nat.le_of_ble_eq_true rfl, 400, xlk [(68, 5)], fun m pc ls st w => pc = 68 ∧ ∃ u c v F', u < 2 ∧ use = nI u ∧ c ≤ n ∧ m = n - c ∧ ls = [(0, .ref 0), (1, .int use), (2, .int (nI n)), (3, .int v), (4, .int (nI c))] ∧ st = [] ∧ FW F F' ∧ w = LM (aset A 1 (txtD (upd (A 1) 4 0) u n c)) F' ∧ ((PR (bb A 196) n u 0 0 0).1 = true ∧ (PR (bb A 196) n u 0 0 0).2.1 = n), ?_, ?_⟩
  · refine ⟨use, 0, 1, rfl, fun g1 g2 => ?_, fun g => ?_⟩
    · obtain ⟨u, hu, rfl⟩ := rg (c := 1) (by omega) g1 g2
      have eu : (nI u).toNatClampNeg = u := cl (by omega)
      refine br_t xc_ne1 ?_
      refine And.intro (vl 4 250 rfl rfl) (And.intro (vl 4 250 rfl rfl) ?_)
      refine ⟨aset A 1 (upd (A 1) 4 0), F, 196, n, u, ?_, rfl, by omega, by omega, by omega, fun g F' hW h7 => ?_, fun g v F' hW h7 => ?_⟩
      · rw [← en]; rfl
      · rw [ebb] at g
        refine br_t (by show F' 7 < 0; rw [h7]; decide) ?_
        have eix : (72 : Int32) + nI u = nI (72 + u) := by rw [show (72 : Int32) = nI 72 from rfl, nI_add]
        have ein : vp_in (72 + nI u) 250 := by rw [eix]; exact vp_in_nI (by omega) (by decide)
        refine And.intro ein ?_
        refine ⟨n, rfl, u, 0, VV ((aset A 1 (upd (A 1) 4 0)) 4) (PR (bb (aset A 1 (upd (A 1) 4 0)) 196) n u 0 0 0).2.2, F', by omega, rfl, Nat.zero_le _, rfl, ?_, rfl, hW, ?_, g⟩
        · rw [← en]; rfl
        · rw [txtD_0, ← aset_aset A 1 (upd (A 1) 4 0), ← cl (i := 72 + u) (by omega), ← eix, ← en]
          rfl
      · rw [ebb] at g h7
        have h70 : ¬ F' 7 < 0 := by rw [h7]; exact nI_pos (by have : (PR (bb A 196) n u 0 0 0).2.1 ≤ n := PRle (Nat.zero_le _); omega)
        refine br_f h70 ?_
        have hv : Qp (some (.int (-10 - F' 7))) (LM (aset A 1 (upd (A 1) 4 0)) F') := by
          rw [h7]
          refine sQ_p h (cif_t' ⟨g1, g2⟩ ?_) ⟨rfl, rfl, rfl, rfl, rfl, rfl, rfl, hW 2 (by omega), hW 24 (by omega)⟩
          rw [ecl, eu]
          exact cif_f' g rfl
        exact hv
    · refine br_f xc_ne0 ?_
      refine ⟨A, F, 1, rfl, rfl, by decide, ?_⟩
      exact sQ_e h (cif_f' g rfl)
  · rintro m pc m9 ls st w hc ⟨rfl, u, c, v, F', hu, rfl, hcn, rfl, rfl, rfl, hW, rfl, hok⟩
    have eu : (nI u).toNatClampNeg = u := cl (by omega)
    refine And.intro (fun g => ?_) (fun g => ?_)
    · have := ge_n rfl (by omega) (by omega) g
      have hb : 0 ≤ nI u ∧ nI u ≤ 1 := ⟨nI_pos' (by omega), nI_le (b := 1) (by omega) (by omega)⟩
      have ec : c = n := by omega
      subst ec
      refine sQ_p h (cif_t' hb ?_) ⟨rfl, rfl, rfl, rfl, rfl, rfl, rfl, hW 2 (by omega), hW 24 (by omega)⟩
      rw [ecl, eu]
      exact cif_t' hok rfl
    · have hlt := nge_n rfl (by omega) (by omega) g
      have e1 : (196 : Int32) + nI c = nI (196 + c) := by rw [show (196 : Int32) = nI 196 from rfl, nI_add]
      have e2 : (96 : Int32) + 50 * nI u + nI c = nI (96 + 50 * u + c) := by rw [show (96 : Int32) = nI 96 from rfl, show (50 : Int32) = nI 50 from rfl, pk_mul, nI_add, nI_add]
      refine And.intro (by show vp_in (196 + nI c) 250; rw [e1]; exact vp_in_nI (by omega) (by decide)) (And.intro (by show vp_in (96 + 50 * nI u + nI c) 250; rw [e2]; exact vp_in_nI (by omega) (by decide)) ?_)
      refine ⟨n - (c + 1), by omega, rfl, u, c + 1, v, F', hu, rfl, hlt, rfl, by rw [← nI_1]; rfl, rfl, hW, ?_, hok⟩
      show LM (aset (aset A 1 (txtD (upd (A 1) 4 0) u n c)) 1 (upd (txtD (upd (A 1) 4 0) u n c) (96 + 50 * nI u + nI c).toNatClampNeg (txtD (upd (A 1) 4 0) u n c (196 + nI c).toNatClampNeg))) F' = _
      rw [aset_aset, e1, e2, cl (by omega), cl (by omega), txtD_hi hu (by omega) (by omega), txtD_s hu]
/-- the scratch of texts: names, and the reader's numbers -/
def SW (A : XA) (F : Nat → Int32) (A' : XA) (F' : Nat → Int32) : Prop := (∀ p, p ≠ 4 → A' p = A p) ∧ FW F F'
theorem SW.r (A : XA) (F : Nat → Int32) : SW A F A F := ⟨fun _ _ => rfl, fun _ _ => rfl⟩
theorem SW.per {A A' : XA} {F F' : Nat → Int32} (h : SW A F A' F') : per A F A' F' := ⟨h.1 1 (by omega), h.1 2 (by omega), h.1 3 (by omega), h.1 14 (by omega), h.1 15 (by omega), h.1 16 (by omega), h.1 17 (by omega), h.2 2 (by omega), h.2 24 (by omega)⟩
def sX10_adds : XS := fun as w post => ∃ (A : XA) (F : Nat → Int32) (a b c e : Int32), as = [.ref 0, .int a, .int b, .int c, .int e] ∧ w = LM A F ∧ bd (A 1 72) 51 ∧ TXO (A 1) 0 ∧ ∀ A' F', SW A F A' F' → post (some (.int (addsV (A 1) a b c e))) (LM A' F')
set_option maxRecDepth 10000 in
set_option maxHeartbeats 1000000 in
theorem mX10_adds (d : Nat) (hd : 61 ≤ d) : xCT d yX10_adds cX10_adds 5 (some .int) sX10_adds := by
  obtain ⟨d, rfl⟩ : ∃ e, d = e + 1 := ⟨d - 1, by omega⟩
  refine xmet0 (tb := tX10_adds) (fl := fX10) (kc := nX10) (gs := g0) (cl := xlk [(133, true, 4, xrcv 10 (sX10_worked))]) 400 (by decide) tX10_adds_ok fX10_ok nX10_ok g0_ok (xg_cons (k_X10_133 (mX10_worked d (by omega))) xg_nil) ?_
  rintro L xs as w Qp ⟨A, F, a, b, c, e, rfl, rfl, ⟨n, hn, en⟩, hT, h⟩
  refine ⟨Nat.le_of_ble_eq_true rfl, ?_⟩
  refine And.intro (vl 72 250 rfl rfl) ?_
  unfold addsV at h
  refine And.intro (fun g => ?_) (fun g => ?_)
  · have g : ¬ A 1 72 = 0 := g
    rw [cif_f g] at h
    have hT : (PR (fun j => A 1 (96 + 50 * 0 + j)) (A 1 72).toNatClampNeg 0 0 0 0).1 = true ∧ (PR (fun j => A 1 (96 + 50 * 0 + j)) (A 1 72).toNatClampNeg 0 0 0 0).2.1 = (A 1 72).toNatClampNeg := hT.resolve_left g
    have ecl : (A 1 72).toNatClampNeg = n := by rw [en]; exact cl (by omega)
    rw [ecl] at hT h
    refine And.intro (vl 0 4 rfl rfl) (And.intro (vl 1 4 rfl rfl) (And.intro (vl 2 4 rfl rfl) (And.intro (vl 3 4 rfl rfl) (And.intro (vl 72 250 rfl rfl) ?_))))
    refine ⟨aset A 4 (upd (upd (upd (upd (A 4) 0 a) 1 b) 2 c) 3 e), F, 96, n, 0, ?_, ?_, by omega, by omega, by omega, fun g F' hW h7 => ?_, fun g => absurd hT g⟩
    · rw [← en]; rfl
    · rw [← aset_aset A 4 (upd (A 4) 0 a), ← aset_aset (aset A 4 (upd (A 4) 0 a)) 4 (upd (upd (A 4) 0 a) 1 b), ← aset_aset (aset (aset A 4 (upd (A 4) 0 a)) 4 (upd (upd (A 4) 0 a) 1 b)) 4 (upd (upd (upd (A 4) 0 a) 1 b) 2 c)]
      rfl
    · have ev : VV (upd (upd (upd (upd (A 4) 0 a) 1 b) 2 c) 3 e) (PR (bb (aset A 4 (upd (upd (upd (upd (A 4) 0 a) 1 b) 2 c) 3 e)) 96) n 0 0 0 0).2.2 = VV (nms a b c e) (PR (fun j => A 1 (96 + j)) n 0 0 0 0).2.2 := by
        refine VV_cg (c := 4) (by omega) (fun i hi => ?_) (tnm_of (fun x hx => nmi4 hx))
        rcases (show i = 0 ∨ i = 1 ∨ i = 2 ∨ i = 3 by omega) with rfl | rfl | rfl | rfl <;> rfl
      have hq := h (aset A 4 (upd (upd (upd (upd (A 4) 0 a) 1 b) 2 c) 3 e)) F' ⟨fun p hp => aset_n hp, hW⟩
      rw [← ev] at hq
      exact hq
  · have g : A 1 72 = 0 := Classical.not_not.mp g
    rw [cif_t g] at h
    exact h A F (SW.r A F)
def sX10_worth : XS := fun as w post => ∃ (A : XA) (F : Nat → Int32) (a b : Int32), as = [.ref 0, .int a, .int b] ∧ w = LM A F ∧ bd (A 1 73) 51 ∧ TXO (A 1) 1 ∧ ∀ A' F', SW A F A' F' → post (some (.int (worthV (A 1) a b))) (LM A' F')
set_option maxRecDepth 10000 in
set_option maxHeartbeats 1000000 in
theorem mX10_worth (d : Nat) (hd : 61 ≤ d) : xCT d yX10_worth cX10_worth 4 (some .int) sX10_worth := by
  obtain ⟨d, rfl⟩ : ∃ e, d = e + 1 := ⟨d - 1, by omega⟩
  refine xmet (tb := tX10_worth) (fl := fX10) (kc := nX10) (gs := g0) (cl := xlk [(133, true, 4, xrcv 10 (sX10_worked))]) (by decide) tX10_worth_ok fX10_ok nX10_ok g0_ok (xg_cons (k_X10_133 (mX10_worked d (by omega))) xg_nil) ?_
  rintro L xs as w Qp ⟨A, F, a, b, rfl, rfl, ⟨n, hn, en⟩, hT, h⟩
  unfold worthV at h
  refine ⟨Nat.le_of_ble_eq_true rfl, 400, xlk [(42, 4)], fun m pc ls st w => pc = 42 ∧ m = 0 ∧ st = [] ∧ ∃ v A' F', ls = [(0, .ref 0), (1, .int a), (2, .int b), (3, .int v)] ∧ w = LM A' F' ∧ Qp (some (.int (clampV v))) (LM A' F'), ?_, ?_⟩
  · refine And.intro (vl 73 250 rfl rfl) ?_
    refine And.intro (fun g => ?_) (fun g => ?_)
    · have g : A 1 73 ≤ 0 := g
      have g0 : A 1 73 = 0 := by
        rw [en] at g ⊢
        have := (nI_leI (b := 0) (by omega) (by omega)).mp g
        rw [show n = 0 by omega]
        rfl
      rw [cif_t g0] at h
      exact ⟨0, rfl, rfl, rfl, a, A, F, rfl, rfl, h A F (SW.r A F)⟩
    · have g : ¬ A 1 73 = 0 := fun q => g (by show A 1 73 ≤ 0; rw [q]; decide)
      rw [cif_f g] at h
      have hT : (PR (fun j => A 1 (96 + 50 * 1 + j)) (A 1 73).toNatClampNeg 1 0 0 0).1 = true ∧ (PR (fun j => A 1 (96 + 50 * 1 + j)) (A 1 73).toNatClampNeg 1 0 0 0).2.1 = (A 1 73).toNatClampNeg := hT.resolve_left g
      have ecl : (A 1 73).toNatClampNeg = n := by rw [en]; exact cl (by omega)
      rw [ecl] at hT h
      refine And.intro (vl 0 4 rfl rfl) (And.intro (vl 1 4 rfl rfl) (And.intro (vl 73 250 rfl rfl) ?_))
      refine ⟨aset A 4 (upd (upd (A 4) 0 a) 1 b), F, 146, n, 1, ?_, ?_, by omega, by omega, by omega, fun g F' hW h7 => ?_, fun g => absurd hT g⟩
      · rw [← en]; rfl
      · rw [← aset_aset A 4 (upd (A 4) 0 a)]
        rfl
      · have ev : VV (upd (upd (A 4) 0 a) 1 b) (PR (bb (aset A 4 (upd (upd (A 4) 0 a) 1 b)) 146) n 1 0 0 0).2.2 = VV (nms a b 0 0) (PR (fun j => A 1 (146 + j)) n 1 0 0 0).2.2 := by
          refine VV_cg (c := 2) (by omega) (fun i hi => ?_) (tnm_of (fun x hx => nmi2 hx))
          rcases (show i = 0 ∨ i = 1 by omega) with rfl | rfl <;> rfl
        have hq := h (aset A 4 (upd (upd (A 4) 0 a) 1 b)) F' ⟨fun p hp => aset_n hp, hW⟩
        rw [← ev] at hq
        exact ⟨0, rfl, rfl, rfl, _, _, F', rfl, rfl, hq⟩
  · rintro m pc m9 ls st w hc ⟨rfl, rfl, rfl, v, A', F', rfl, rfl, hq⟩
    unfold clampV at hq
    refine And.intro (fun g => ?_) (fun g => ?_)
    · have g : ¬ v < -999 := fun q => (fa_of_lt q).2.1 g
      rw [cif_f g] at hq
      refine And.intro (fun g2 => ?_) (fun g2 => ?_)
      · have g2 : ¬ 999 < v := fun q => (fa_of_lt q).2.1 g2
        rw [cif_f g2] at hq
        exact hq
      · have g2 : 999 < v := fa_of_nle g2
        rw [cif_t g2] at hq
        exact hq
    · have g : v < -999 := fa_of_nle g
      rw [cif_t g] at hq
      exact hq
def sX10_law : XS := fun as w post => ∃ (A : XA) (F : Nat → Int32) (use a b c e : Int32), as = [.ref 0, .int use, .int a, .int b, .int c, .int e] ∧ w = LM A F ∧ bd (A 1 72) 51 ∧ bd (A 1 73) 51 ∧ TXO (A 1) 0 ∧ TXO (A 1) 1 ∧ sQ (qlaw use a b c e A F) post
set_option maxRecDepth 10000 in
set_option maxHeartbeats 1000000 in
theorem mX10_law (d : Nat) (hd : 62 ≤ d) : xCT d yX10_law cX10_law 6 (some .int) sX10_law := by
  obtain ⟨d, rfl⟩ : ∃ e, d = e + 1 := ⟨d - 1, by omega⟩
  refine xmet0 (tb := tX10_law) (fl := fX10) (kc := nX10) (gs := g0) (cl := xlk [(137, true, 5, xrcv 10 (sX10_adds)), (141, true, 3, xrcv 10 (sX10_worth)), (128, true, 2, xrcv 10 (sX10_finds))]) 400 (by decide) tX10_law_ok fX10_ok nX10_ok g0_ok (xg_cons (k_X10_137 (mX10_adds d (by omega))) (xg_cons (k_X10_141 (mX10_worth d (by omega))) (xg_cons (k_X10_128 (mX10_finds d (by omega))) xg_nil))) ?_
  rintro L xs as w Qp ⟨A, F, use, a, b, c, e, rfl, rfl, b72, b73, hT0, hT1, h⟩
  refine ⟨Nat.le_of_ble_eq_true rfl, ?_⟩
  unfold qlaw at h
  refine And.intro (fun g => ?_) (fun g => ?_)
  · have g : ¬ use = 0 := g
    refine And.intro (fun g1 => ?_) (fun g1 => ?_)
    · have g1 : ¬ use = 1 := g1
      refine ⟨A, F, 1, rfl, rfl, by decide, ?_⟩
      exact sQ_e h (cif_f' g (cif_f' g1 rfl))
    · have g1 : use = 1 := Classical.not_not.mp g1
      refine ⟨A, F, a, b, rfl, rfl, b73, hT1, fun A' F' hs => ?_⟩
      exact sQ_p h (cif_f' g (cif_t' g1 rfl)) hs.per
  · have g : use = 0 := Classical.not_not.mp g
    refine ⟨A, F, a, b, c, e, rfl, rfl, b72, hT0, fun A' F' hs => ?_⟩
    exact sQ_p h (cif_t' g rfl) hs.per
