/-! ===== the reference reads texts ===== -/
def bb (A : XA) (base : Nat) : Nat → Int32 := fun j => A 1 (base + j)
def PS (F : Nat → Int32) (base p n o u : Nat) : Prop := F 4 = nI base ∧ F 5 = nI p ∧ F 6 = nI n ∧ F 7 = -1 ∧ F 8 = nI o ∧ F 9 = nI u ∧ u < 2 ∧ base + n ≤ 250 ∧ n ≤ 50 ∧ p ≤ n
def sX10_here : XS := fun as w post => ∃ (A : XA) (F : Nat → Int32), as = [.ref 0] ∧ w = LM A F ∧ ((∃ base p n o u, PS F base p n o u ∧ post (some (.int (hr (bb A base) n p))) (LM A F)) ∨ (0 ≤ F 7 ∧ post (some (.int (-1))) (LM A F)))
theorem m1n : ¬ (0 : Int32) ≤ -1 := by decide
set_option maxRecDepth 10000 in
set_option maxHeartbeats 1000000 in
theorem mX10_here (d : Nat) (hd : 0 ≤ d) : xCT d yX10_here cX10_here 1 (some .int) sX10_here := by
  refine xmet0 (tb := tX10_here) (fl := fX10) (kc := nX10) (gs := g0) (cl := xlk []) 400 (by decide) tX10_here_ok fX10_ok nX10_ok g0_ok xg_nil ?_
  rintro L xs as w Qp ⟨A, F, rfl, rfl, ⟨base, p, n, o, u, ⟨h4, h5, h6, h7, h8, h9, hu, hbn, hn, hp⟩, h⟩ | ⟨h7, h⟩⟩
  · refine ⟨Nat.le_of_ble_eq_true rfl, ?_⟩
    refine And.intro (fun g => ?_) (fun g => ?_)
    · have g : F 6 ≤ F 5 := g
      rw [h6, h5, nI_leI (by omega) (by omega)] at g
      unfold hr at h
      rw [if_neg (by omega)] at h
      exact h
    · have g : ¬ F 6 ≤ F 5 := g
      rw [h6, h5, nI_leI (by omega) (by omega)] at g
      refine br_f (by show ¬ 0 ≤ F 7; rw [h7]; exact m1n) ?_
      have e : F 4 + F 5 = nI (base + p) := by rw [h4, h5, nI_add]
      unfold hr bb at h
      rw [if_pos (by omega), ← cl (i := base + p) (by omega), ← e] at h
      exact And.intro (by rw [e]; exact vp_in_nI (by omega) (by decide)) h
  · refine ⟨Nat.le_of_ble_eq_true rfl, ?_⟩
    refine And.intro (fun g => ?_) (fun g => ?_)
    · exact h
    · exact br_t h7 h
def sX10_wrong : XS := fun as w post => ∃ (A : XA) (F : Nat → Int32), as = [.ref 0] ∧ w = LM A F ∧ ((F 7 < 0 ∧ post (some (.int 0)) (LM A (fset F 7 (F 5)))) ∨ (0 ≤ F 7 ∧ post (some (.int 0)) (LM A F)))
set_option maxRecDepth 10000 in
set_option maxHeartbeats 1000000 in
theorem mX10_wrong (d : Nat) (hd : 0 ≤ d) : xCT d yX10_wrong cX10_wrong 1 (some .int) sX10_wrong := by
  refine xmet0 (tb := tX10_wrong) (fl := fX10) (kc := nX10) (gs := g0) (cl := xlk []) 400 (by decide) tX10_wrong_ok fX10_ok nX10_ok g0_ok xg_nil ?_
  rintro L xs as w Qp ⟨A, F, rfl, rfl, ⟨h7, h⟩ | ⟨h7, h⟩⟩
  · refine ⟨Nat.le_of_ble_eq_true rfl, ?_⟩
    exact br_f ((fa_of_lt h7).2.1) h
  · refine ⟨Nat.le_of_ble_eq_true rfl, ?_⟩
    exact br_t h7 h
def sX10_takes : XS := fun as w post => ∃ (A : XA) (F : Nat → Int32) (x : Int32), as = [.ref 0, .int x] ∧ w = LM A F ∧ ((∃ base p n o u, PS F base p n o u ∧ (hr (bb A base) n p = x → post (some (.int 1)) (LM A (fset F 5 (nI (p + 1))))) ∧ (¬ hr (bb A base) n p = x → post (some (.int 0)) (LM A F))) ∨ (0 ≤ F 7 ∧ ¬ -1 = x ∧ post (some (.int 0)) (LM A F)))
set_option maxRecDepth 10000 in
set_option maxHeartbeats 1000000 in
theorem mX10_takes (d : Nat) (hd : 1 ≤ d) : xCT d yX10_takes cX10_takes 2 (some .boolean) sX10_takes := by
  obtain ⟨d, rfl⟩ : ∃ e, d = e + 1 := ⟨d - 1, by omega⟩
  refine xmet0 (tb := tX10_takes) (fl := fX10) (kc := nX10) (gs := g0) (cl := xlk [(82, true, 1, xrcv 10 (sX10_here))]) 400 (by decide) tX10_takes_ok fX10_ok nX10_ok g0_ok (xg_cons (k_X10_82 (mX10_here d (by omega))) xg_nil) ?_
  rintro L xs as w Qp ⟨A, F, x, rfl, rfl, ⟨base, p, n, o, u, hPS, h1, h2⟩ | ⟨h7, hx, h⟩⟩
  · refine ⟨Nat.le_of_ble_eq_true rfl, ?_⟩
    refine ⟨A, F, rfl, rfl, Or.inl ⟨base, p, n, o, u, hPS, ?_⟩⟩
    refine And.intro (fun g => ?_) (fun g => ⟨rfl, h2 g⟩)
    have h := h1 g
    rw [← nI_1, ← hPS.2.1] at h
    exact ⟨rfl, h⟩
  · refine ⟨Nat.le_of_ble_eq_true rfl, ?_⟩
    refine ⟨A, F, rfl, rfl, Or.inr ⟨h7, ?_⟩⟩
    exact br_f hx ⟨rfl, h⟩
def sX10_nameOf : XS := fun as w post => ∃ (A : XA) (F : Nat → Int32) (x : Int32) (u : Nat), as = [.ref 0, .int x] ∧ w = LM A F ∧ F 9 = nI u ∧ u < 2 ∧ (nmi u x < 9 → post (some (.int (nI (nmi u x)))) (LM A F)) ∧ (¬ nmi u x < 9 → post (some (.int (-1))) (LM A F))
set_option maxRecDepth 10000 in
set_option maxHeartbeats 1000000 in
theorem mX10_nameOf (d : Nat) (hd : 0 ≤ d) : xCT d yX10_nameOf cX10_nameOf 2 (some .int) sX10_nameOf := by
  refine xmet0 (tb := tX10_nameOf) (fl := fX10) (kc := nX10) (gs := g0) (cl := xlk []) 400 (by decide) tX10_nameOf_ok fX10_ok nX10_ok g0_ok xg_nil ?_
  rintro L xs as w Qp ⟨A, F, x, u, rfl, rfl, h9, hu, h1, h2⟩
  refine ⟨Nat.le_of_ble_eq_true rfl, ?_⟩
  refine And.intro (fun g => ?_) (fun g => ?_)
  · have g : F 9 = 0 := g
    have hu0 : u = 0 := by
      rw [h9] at g
      exact (nI_eq (b := 0) (by omega) (by omega)).mp g
    subst hu0
    have e : nmi 0 x = cif (x = 108) 0 (cif (x = 115) 1 (cif (x = 109) 2 (cif (x = 107) 3 9))) := cif_f (by omega)
    rw [e] at h1 h2
    refine And.intro (fun g1 => ?_) (fun g1 => ?_)
    · have g1 : ¬ x = 108 := g1
      rw [cif_f g1] at h1 h2
      refine And.intro (fun g2 => ?_) (fun g2 => ?_)
      · have g2 : ¬ x = 115 := g2
        rw [cif_f g2] at h1 h2
        refine And.intro (fun g3 => ?_) (fun g3 => ?_)
        · have g3 : ¬ x = 109 := g3
          rw [cif_f g3] at h1 h2
          refine And.intro (fun g4 => ?_) (fun g4 => ?_)
          · have g4 : ¬ x = 107 := g4
            rw [cif_f g4] at h2
            exact h2 (by omega)
          · have g4 : x = 107 := Classical.not_not.mp g4
            rw [cif_t g4] at h1
            exact h1 (by omega)
        · have g3 : x = 109 := Classical.not_not.mp g3
          rw [cif_t g3] at h1
          exact h1 (by omega)
      · have g2 : x = 115 := Classical.not_not.mp g2
        rw [cif_t g2] at h1
        exact h1 (by omega)
    · have g1 : x = 108 := Classical.not_not.mp g1
      rw [cif_t g1] at h1
      exact h1 (by omega)
  · have g : ¬ F 9 = 0 := g
    have hu1 : u = 1 := by
      rcases Nat.lt_or_ge u 1 with q | q
      · exact absurd (by rw [h9, show u = 0 by omega]; rfl) g
      · omega
    subst hu1
    have e : nmi 1 x = cif (x = 110) 0 (cif (x = 107) 1 9) := cif_t rfl
    rw [e] at h1 h2
    refine And.intro (fun g1 => ?_) (fun g1 => ?_)
    · have g1 : ¬ x = 110 := g1
      rw [cif_f g1] at h1 h2
      refine And.intro (fun g4 => ?_) (fun g4 => ?_)
      · have g4 : ¬ x = 107 := g4
        rw [cif_f g4] at h2
        exact h2 (by omega)
      · have g4 : x = 107 := Classical.not_not.mp g4
        rw [cif_t g4] at h1
        exact h1 (by omega)
    · have g1 : x = 110 := Classical.not_not.mp g1
      rw [cif_t g1] at h1
      exact h1 (by omega)
def FB (F F' : Nat → Int32) (q : Nat) : Prop := F' 7 = nI q ∧ ∀ k, k ≠ 5 → k ≠ 7 → k ≠ 8 → F' k = F k
/-- what a reading method of kind c does, when at most j more may be opened -/
def sP (c j : Nat) : XS := fun as w post => ∃ (A : XA) (F : Nat → Int32) (base p n o u : Nat), as = [.ref 0] ∧ w = LM A F ∧ PS F base p n o u ∧ 5 ≤ o + j ∧ o ≤ 5 ∧
  ((PR (bb A base) n u c p o).1 = true → post (some (.int (VV (A 4) (PR (bb A base) n u c p o).2.2))) (LM A (fset F 5 (nI (PR (bb A base) n u c p o).2.1)))) ∧
  ((PR (bb A base) n u c p o).1 = false → ∀ v F', FB F F' (PR (bb A base) n u c p o).2.1 → post (some (.int v)) (LM A F'))
theorem PS_at {F : Nat → Int32} {base p n o u q : Nat} (h : PS F base p n o u) (hq : q ≤ n) : PS (fset F 5 (nI q)) base q n o u := ⟨h.1, rfl, h.2.2.1, h.2.2.2.1, h.2.2.2.2.1, h.2.2.2.2.2.1, h.2.2.2.2.2.2.1, h.2.2.2.2.2.2.2.1, h.2.2.2.2.2.2.2.2.1, hq⟩
theorem FB_pos {F F' : Nat → Int32} {q : Nat} (h : FB F F' q) (hq : q ≤ 50) : 0 ≤ F' 7 := by rw [h.1]; exact nI_pos' (by omega)
theorem FB_at {F F' : Nat → Int32} {q r : Nat} (h : FB (fset F 5 (nI r)) F' q) : FB F F' q := ⟨h.1, fun k h1 h2 h3 => (h.2 k h1 h2 h3).trans (fset_n h1)⟩
/-- a loop goes on: one more element and its sign -/
theorem lp_go {nm : Nat → Int32} {R E : PT} {K : Nat → PT} {q : Nat} {ps : List Int32} {s : Int32} (hR : R = cat2 (true, q, ps) K) (hK : K q = cat2 E (fun q => cat2 (true, q, [-s]) K)) (hE : E.1 = true) (hs : isop s) (w1 : WV nm ps) (w2 : WV nm E.2.2) :
    R = cat2 (true, E.2.1, ps ++ (E.2.2 ++ [-s])) K ∧ WV nm (ps ++ (E.2.2 ++ [-s])) ∧ VV nm (ps ++ (E.2.2 ++ [-s])) = jn s (VV nm ps) (VV nm E.2.2) := by
  have w3 := WX_op w2 (isop_n hs).1 (isop_n hs).2
  have w4 := WV_cat w1 w3.1
  refine ⟨?_, w4.1, w4.2.trans (w3.2 _)⟩
  obtain ⟨ok, q2, qs⟩ := E
  have hE : ok = true := hE
  subst hE
  rw [hR]
  unfold cat2
  dsimp only
  rw [hK]
  unfold cat2
  dsimp only
  cases hk : K q2 with
  | mk ok3 x =>
    obtain ⟨q3, rs⟩ := x
    cases ok3 with
    | false => rfl
    | true => simp
theorem lp_bad {R E : PT} {K : Nat → PT} {q : Nat} {ps : List Int32} {s : Int32} (hR : R = cat2 (true, q, ps) K) (hK : K q = cat2 E (fun q => cat2 (true, q, [-s]) K)) (hE : E.1 = false) : R.1 = false ∧ R.2.1 = E.2.1 := by
  have e : K q = (false, E.2.1, []) := hK.trans (cat2_f1 hE)
  have e2 := cat2_f2 (r := (true, q, ps)) (k := K) rfl (by rw [e])
  rw [hR, e2]
  exact ⟨rfl, by rw [e]⟩
theorem lp_end {R : PT} {K : Nat → PT} {q : Nat} {ps : List Int32} (hR : R = cat2 (true, q, ps) K) (hK : K q = (true, q, [])) : R = (true, q, ps) := by
  rw [hR, cat2_i rfl hK, List.append_nil]
theorem PRok {b : Nat → Int32} {n u c p o : Nat} (nm : Nat → Int32) (hc : c < 6) (h : (PR b n u c p o).1 = true) : WV nm (PR b n u c p o).2.2 := (PP_ok nm b n u 700 c p o h).1 hc
theorem PRle {b : Nat → Int32} {n u c p o : Nat} (h : p ≤ n) : (PR b n u c p o).2.1 ≤ n := PP_le b n u 700 c p o h
theorem PRge {b : Nat → Int32} {n u c p o : Nat} : p ≤ (PR b n u c p o).2.1 := PP_ge b n u 700 c p o
theorem pt_eq (r : PT) (h : r.1 = true) : r = (true, r.2.1, r.2.2) := by
  obtain ⟨a, b, c⟩ := r
  have h : a = true := h
  rw [h]
theorem jn_mul (x y : Int32) : jn 42 x y = x * y := by unfold jn; rw [cif_f (by decide), cif_f (by decide), cif_f (by decide), cif_f (by decide), cif_f (by decide), cif_f (by decide), cif_f (by decide), cif_t rfl]
theorem jn_z {s : Int32} (hs : s = 47 ∨ s = 37) (x : Int32) : jn s x 0 = 0 := by
  rcases hs with rfl | rfl <;> (unfold jn; rw [cif_f (by decide), cif_f (by decide), cif_f (by decide), cif_f (by decide), cif_f (by decide), cif_f (by decide), cif_f (by decide), cif_f (by decide), cif_t rfl])
theorem jn_div {x y : Int32} (h : ¬ y = 0) : jn 47 x y = x / y := by unfold jn; rw [cif_f (by decide), cif_f (by decide), cif_f (by decide), cif_f (by decide), cif_f (by decide), cif_f (by decide), cif_f (by decide), cif_f (by decide), cif_f h, cif_t rfl]
theorem jn_rem {x y : Int32} (h : ¬ y = 0) : jn 37 x y = x - x / y * y := by unfold jn; rw [cif_f (by decide), cif_f (by decide), cif_f (by decide), cif_f (by decide), cif_f (by decide), cif_f (by decide), cif_f (by decide), cif_f (by decide), cif_f h, cif_f (by decide)]
theorem jn_add (x y : Int32) : jn 43 x y = x + y := by unfold jn; rw [cif_f (by decide), cif_f (by decide), cif_f (by decide), cif_f (by decide), cif_f (by decide), cif_t rfl]
theorem jn_sub (x y : Int32) : jn 45 x y = x - y := by unfold jn; rw [cif_f (by decide), cif_f (by decide), cif_f (by decide), cif_f (by decide), cif_f (by decide), cif_f (by decide), cif_t rfl]
theorem jn_lt (x y : Int32) : jn 60 x y = cif (x < y) 1 0 := by unfold jn; rw [cif_f (by decide), cif_f (by decide), cif_t rfl]
theorem jn_eq (x y : Int32) : jn 61 x y = cif (x = y) 1 0 := by unfold jn; rw [cif_f (by decide), cif_f (by decide), cif_f (by decide), cif_t rfl]
theorem jn_gt (x y : Int32) : jn 62 x y = cif (y < x) 1 0 := by unfold jn; rw [cif_f (by decide), cif_f (by decide), cif_f (by decide), cif_f (by decide), cif_t rfl]
theorem jn_or (x y : Int32) : jn 124 x y = cif (¬ x = 0 ∨ ¬ y = 0) 1 0 := by unfold jn; rw [cif_t rfl]
theorem jn_and (x y : Int32) : jn 38 x y = cif (¬ x = 0 ∧ ¬ y = 0) 1 0 := by unfold jn; rw [cif_f (by decide), cif_t rfl]
