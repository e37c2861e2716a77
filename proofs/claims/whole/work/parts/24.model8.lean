/-! ===== the reference reads products, sums, comparisons, both, either ===== -/
set_option maxRecDepth 10000 in
set_option maxHeartbeats 1000000 in
theorem pX10_product (j d : Nat) (hU : xCT d yX10_unit cX10_unit 5 (some .int) (sP 5 j)) : xCT (d + 1) yX10_product cX10_product 4 (some .int) (sP 4 j) := by
  refine xmet (tb := tX10_product) (fl := fX10) (kc := nX10) (gs := g0) (cl := xlk [(82, true, 1, xrcv 10 sX10_here), (106, true, 1, xrcv 10 (sP 5 j))]) (by decide) tX10_product_ok fX10_ok nX10_ok g0_ok (xg_cons (k_X10_82 (mX10_here d (by omega))) (xg_cons (k_X10_106 hU) xg_nil)) ?_
  rintro L xs as w Qp ⟨A, F, base, p, n, o, u, rfl, rfl, hPS, hj, ho, h1, h2⟩
  have hn : n ≤ 50 := hPS.2.2.2.2.2.2.2.2.1
  have hp : p ≤ n := hPS.2.2.2.2.2.2.2.2.2
  have hR0 := PR_4 (b := bb A base) (u := u) (p := p) (o := o) hn
  generalize PR (bb A base) n u 4 p o = R at h1 h2 hR0
  refine ⟨Nat.le_of_ble_eq_true rfl, 400, xlk [(5, 2), (32, 2)], fun m pc ls st w => st = [] ∧ ((∃ q v ps, q ≤ n ∧ ls = [(0, .ref 0), (1, .int v)] ∧ w = LM A (fset F 5 (nI q)) ∧ WV (A 4) ps ∧ VV (A 4) ps = v ∧ R = cat2 (true, q, ps) (fun q => PR (bb A base) n u 9 q o) ∧ ((pc = 5 ∧ m = 2 * (60 - q) + 1) ∨ (pc = 32 ∧ m = 2 * (60 - q) ∧ (hr (bb A base) n q = 42 ∨ hr (bb A base) n q = 47 ∨ hr (bb A base) n q = 37)))) ∨ (pc = 5 ∧ ∃ v F', m = 0 ∧ ls = [(0, .ref 0), (1, .int v)] ∧ w = LM A F' ∧ FB F F' R.2.1 ∧ R.1 = false ∧ R.2.1 ≤ n)), ?_, ?_⟩
  · refine ⟨A, F, base, p, n, o, u, rfl, rfl, hPS, hj, ho, fun g => ?_, fun g v F' hF => ?_⟩
    · refine ⟨_, rfl, Or.inl ⟨_, _, _, PRle hp, rfl, rfl, PRok (A 4) (by omega) g, rfl, ?_, Or.inl ⟨rfl, rfl⟩⟩⟩
      rw [hR0, ← pt_eq _ g]
    · have e : R.1 = false ∧ R.2.1 = (PR (bb A base) n u 5 p o).2.1 := by rw [hR0, cat2_f1 g]; exact ⟨rfl, rfl⟩
      exact ⟨0, rfl, Or.inr ⟨rfl, v, F', rfl, rfl, rfl, by rw [e.2]; exact hF, e.1, by rw [e.2]; exact PRle hp⟩⟩
  · rintro m pc m9 ls st w hc ⟨rfl, ⟨q, v, ps, hq, rfl, rfl, w1, hv, hR, ⟨rfl, rfl⟩ | ⟨rfl, rfl, hop⟩⟩ | ⟨rfl, v, F', rfl, rfl, rfl, hF, hb, hle⟩⟩
    · refine ⟨A, _, rfl, rfl, Or.inl ⟨base, q, n, o, u, PS_at hPS hq, ?_⟩⟩
      refine And.intro (fun g => ⟨2 * (60 - q), by omega, rfl, Or.inl ⟨q, v, ps, hq, rfl, rfl, w1, hv, hR, Or.inr ⟨rfl, rfl, Or.inl g⟩⟩⟩) (fun g1 => ?_)
      refine ⟨A, _, rfl, rfl, Or.inl ⟨base, q, n, o, u, PS_at hPS hq, ?_⟩⟩
      refine And.intro (fun g => ⟨2 * (60 - q), by omega, rfl, Or.inl ⟨q, v, ps, hq, rfl, rfl, w1, hv, hR, Or.inr ⟨rfl, rfl, Or.inr (Or.inl g)⟩⟩⟩) (fun g2 => ?_)
      refine ⟨A, _, rfl, rfl, Or.inl ⟨base, q, n, o, u, PS_at hPS hq, ?_⟩⟩
      refine And.intro (fun g3 => ?_) (fun g => ⟨2 * (60 - q), by omega, rfl, Or.inl ⟨q, v, ps, hq, rfl, rfl, w1, hv, hR, Or.inr ⟨rfl, rfl, Or.inr (Or.inr (Classical.not_not.mp g))⟩⟩⟩)
      have e := lp_end hR ((PR_9 hn).trans (cif_f (fun g => by rcases g with g | g | g <;> first | exact g1 g | exact g2 g | exact g3 g)))
      subst e
      rw [← hv]
      exact h1 rfl
    · have hq1 : q + 1 ≤ n := by rcases hop with g | g | g <;> exact hr_lt g (by decide)
      have hop2 : isop (hr (bb A base) n q) := by rcases hop with g | g | g <;> rw [g] <;> unfold isop <;> simp
      have hK := (PR_9 (b := bb A base) (u := u) (p := q) (o := o) hn).trans (cif_t hop)
      refine ⟨A, _, rfl, rfl, Or.inl ⟨base, q, n, o, u, PS_at hPS hq, ?_⟩⟩
      refine ⟨A, fset F 5 (nI (q + 1)), base, q + 1, n, o, u, rfl, by rw [← nI_1]; rfl, PS_at hPS hq1, hj, ho, fun g => ?_, fun g v' F' hF => ?_⟩
      · have key := lp_go (nm := A 4) hR hK g hop2 w1 (PRok (A 4) (by omega) g)
        have hge : q + 1 ≤ (PR (bb A base) n u 5 (q + 1) o).2.1 := PRge
        have hle : (PR (bb A base) n u 5 (q + 1) o).2.1 ≤ n := PRle hq1
        rw [hv] at key
        refine And.intro (fun g1 => ?_) (fun g1 => ?_)
        · have g1 : ¬ hr (bb A base) n q = 42 := g1
          refine And.intro (fun g2 => ?_) (fun g2 => ?_)
          · have g2 : ¬ VV (A 4) (PR (bb A base) n u 5 (q + 1) o).2.2 = 0 := g2
            refine And.intro (fun g3 => ?_) (fun g3 => ?_)
            · have g3 : ¬ hr (bb A base) n q = 47 := g3
              have g4 : hr (bb A base) n q = 37 := by rcases hop with q | q | q; exact absurd q g1; exact absurd q g3; exact q
              refine And.intro g2 ?_
              refine ⟨2 * (60 - (PR (bb A base) n u 5 (q + 1) o).2.1) + 1, by omega, rfl, Or.inl ⟨_, _, _, hle, rfl, rfl, key.2.1, ?_, key.1, Or.inl ⟨rfl, rfl⟩⟩⟩
              rw [key.2.2, g4, jn_rem g2]
            · have g3 : hr (bb A base) n q = 47 := Classical.not_not.mp g3
              refine And.intro g2 ?_
              refine ⟨2 * (60 - (PR (bb A base) n u 5 (q + 1) o).2.1) + 1, by omega, rfl, Or.inl ⟨_, _, _, hle, rfl, rfl, key.2.1, ?_, key.1, Or.inl ⟨rfl, rfl⟩⟩⟩
              rw [key.2.2, g3, jn_div g2]
          · have g2 : VV (A 4) (PR (bb A base) n u 5 (q + 1) o).2.2 = 0 := Classical.not_not.mp g2
            have hs : hr (bb A base) n q = 47 ∨ hr (bb A base) n q = 37 := hop.resolve_left g1
            refine ⟨2 * (60 - (PR (bb A base) n u 5 (q + 1) o).2.1) + 1, by omega, rfl, Or.inl ⟨_, _, _, hle, rfl, rfl, key.2.1, ?_, key.1, Or.inl ⟨rfl, rfl⟩⟩⟩
            rw [key.2.2, g2, jn_z hs]
            rfl
        · have g1 : hr (bb A base) n q = 42 := Classical.not_not.mp g1
          refine ⟨2 * (60 - (PR (bb A base) n u 5 (q + 1) o).2.1) + 1, by omega, rfl, Or.inl ⟨_, _, _, hle, rfl, rfl, key.2.1, ?_, key.1, Or.inl ⟨rfl, rfl⟩⟩⟩
          rw [key.2.2, g1, jn_mul]
      · have key := lp_bad hR hK g
        have hle : (PR (bb A base) n u 5 (q + 1) o).2.1 ≤ n := PRle hq1
        have fin : ∀ x : Int32, ∃ n', n' < 2 * (60 - q) ∧ ([] : List Value) = [] ∧ ((∃ q v ps, q ≤ n ∧ [(0, Value.ref 0), (1, Value.int x)] = [(0, .ref 0), (1, .int v)] ∧ LM A F' = LM A (fset F 5 (nI q)) ∧ WV (A 4) ps ∧ VV (A 4) ps = v ∧ R = cat2 (true, q, ps) (fun q => PR (bb A base) n u 9 q o) ∧ ((5 = 5 ∧ n' = 2 * (60 - q) + 1) ∨ (5 = 32 ∧ n' = 2 * (60 - q) ∧ (hr (bb A base) n q = 42 ∨ hr (bb A base) n q = 47 ∨ hr (bb A base) n q = 37)))) ∨ (5 = 5 ∧ ∃ v F'', n' = 0 ∧ [(0, Value.ref 0), (1, Value.int x)] = [(0, .ref 0), (1, .int v)] ∧ LM A F' = LM A F'' ∧ FB F F'' R.2.1 ∧ R.1 = false ∧ R.2.1 ≤ n)) := fun x => ⟨0, by omega, rfl, Or.inr ⟨rfl, x, F', rfl, rfl, rfl, by rw [key.2]; exact FB_at hF, key.1, by rw [key.2]; exact hle⟩⟩
        refine And.intro (fun g1 => ?_) (fun g1 => fin _)
        refine And.intro (fun g2 => ?_) (fun g2 => fin _)
        refine And.intro (fun g3 => ?_) (fun g3 => ?_)
        · exact And.intro g2 (fin _)
        · exact And.intro g2 (fin _)
    · have hpos := FB_pos hF (by omega)
      refine ⟨A, F', rfl, rfl, Or.inr ⟨hpos, ?_⟩⟩
      refine br_f (show ¬ (-1 : Int32) = 42 by decide) ?_
      refine ⟨A, F', rfl, rfl, Or.inr ⟨hpos, ?_⟩⟩
      refine br_f (show ¬ (-1 : Int32) = 47 by decide) ?_
      refine ⟨A, F', rfl, rfl, Or.inr ⟨hpos, ?_⟩⟩
      refine br_t (show ¬ (-1 : Int32) = 37 by decide) ?_
      exact h2 hb v F' hF
set_option maxRecDepth 10000 in
set_option maxHeartbeats 1000000 in
theorem pX10_sum (j d : Nat) (hU : xCT d yX10_product cX10_product 4 (some .int) (sP 4 j)) : xCT (d + 1) yX10_sum cX10_sum 4 (some .int) (sP 3 j) := by
  refine xmet (tb := tX10_sum) (fl := fX10) (kc := nX10) (gs := g0) (cl := xlk [(82, true, 1, xrcv 10 sX10_here), (103, true, 1, xrcv 10 (sP 4 j))]) (by decide) tX10_sum_ok fX10_ok nX10_ok g0_ok (xg_cons (k_X10_82 (mX10_here d (by omega))) (xg_cons (k_X10_103 hU) xg_nil)) ?_
  rintro L xs as w Qp ⟨A, F, base, p, n, o, u, rfl, rfl, hPS, hj, ho, h1, h2⟩
  have hn : n ≤ 50 := hPS.2.2.2.2.2.2.2.2.1
  have hp : p ≤ n := hPS.2.2.2.2.2.2.2.2.2
  have hR0 := PR_3 (b := bb A base) (u := u) (p := p) (o := o) hn
  generalize PR (bb A base) n u 3 p o = R at h1 h2 hR0
  refine ⟨Nat.le_of_ble_eq_true rfl, 400, xlk [(5, 2), (23, 2)], fun m pc ls st w => st = [] ∧ ((∃ q v ps, q ≤ n ∧ ls = [(0, .ref 0), (1, .int v)] ∧ w = LM A (fset F 5 (nI q)) ∧ WV (A 4) ps ∧ VV (A 4) ps = v ∧ R = cat2 (true, q, ps) (fun q => PR (bb A base) n u 8 q o) ∧ ((pc = 5 ∧ m = 2 * (60 - q) + 1) ∨ (pc = 23 ∧ m = 2 * (60 - q) ∧ (hr (bb A base) n q = 43 ∨ hr (bb A base) n q = 45)))) ∨ (pc = 5 ∧ ∃ v F', m = 0 ∧ ls = [(0, .ref 0), (1, .int v)] ∧ w = LM A F' ∧ FB F F' R.2.1 ∧ R.1 = false ∧ R.2.1 ≤ n)), ?_, ?_⟩
  · refine ⟨A, F, base, p, n, o, u, rfl, rfl, hPS, hj, ho, fun g => ?_, fun g v F' hF => ?_⟩
    · refine ⟨_, rfl, Or.inl ⟨_, _, _, PRle hp, rfl, rfl, PRok (A 4) (by omega) g, rfl, ?_, Or.inl ⟨rfl, rfl⟩⟩⟩
      rw [hR0, ← pt_eq _ g]
    · have e : R.1 = false ∧ R.2.1 = (PR (bb A base) n u 4 p o).2.1 := by rw [hR0, cat2_f1 g]; exact ⟨rfl, rfl⟩
      exact ⟨0, rfl, Or.inr ⟨rfl, v, F', rfl, rfl, rfl, by rw [e.2]; exact hF, e.1, by rw [e.2]; exact PRle hp⟩⟩
  · rintro m pc m9 ls st w hc ⟨rfl, ⟨q, v, ps, hq, rfl, rfl, w1, hv, hR, ⟨rfl, rfl⟩ | ⟨rfl, rfl, hop⟩⟩ | ⟨rfl, v, F', rfl, rfl, rfl, hF, hb, hle⟩⟩
    · refine ⟨A, _, rfl, rfl, Or.inl ⟨base, q, n, o, u, PS_at hPS hq, ?_⟩⟩
      refine And.intro (fun g => ⟨2 * (60 - q), by omega, rfl, Or.inl ⟨q, v, ps, hq, rfl, rfl, w1, hv, hR, Or.inr ⟨rfl, rfl, Or.inl g⟩⟩⟩) (fun g1 => ?_)
      refine ⟨A, _, rfl, rfl, Or.inl ⟨base, q, n, o, u, PS_at hPS hq, ?_⟩⟩
      refine And.intro (fun g3 => ?_) (fun g => ⟨2 * (60 - q), by omega, rfl, Or.inl ⟨q, v, ps, hq, rfl, rfl, w1, hv, hR, Or.inr ⟨rfl, rfl, Or.inr (Classical.not_not.mp g)⟩⟩⟩)
      have e := lp_end hR ((PR_8 hn).trans (cif_f (fun g => by rcases g with g | g <;> first | exact g1 g | exact g3 g)))
      subst e
      rw [← hv]
      exact h1 rfl
    · have hq1 : q + 1 ≤ n := by rcases hop with g | g <;> exact hr_lt g (by decide)
      have hop2 : isop (hr (bb A base) n q) := by rcases hop with g | g <;> rw [g] <;> unfold isop <;> simp
      have hK := (PR_8 (b := bb A base) (u := u) (p := q) (o := o) hn).trans (cif_t hop)
      refine ⟨A, _, rfl, rfl, Or.inl ⟨base, q, n, o, u, PS_at hPS hq, ?_⟩⟩
      refine ⟨A, fset F 5 (nI (q + 1)), base, q + 1, n, o, u, rfl, by rw [← nI_1]; rfl, PS_at hPS hq1, hj, ho, fun g => ?_, fun g v' F' hF => ?_⟩
      · have key := lp_go (nm := A 4) hR hK g hop2 w1 (PRok (A 4) (by omega) g)
        have hge : q + 1 ≤ (PR (bb A base) n u 4 (q + 1) o).2.1 := PRge
        have hle : (PR (bb A base) n u 4 (q + 1) o).2.1 ≤ n := PRle hq1
        rw [hv] at key
        refine And.intro (fun g1 => ?_) (fun g1 => ?_)
        · have g1 : ¬ hr (bb A base) n q = 43 := g1
          have g4 : hr (bb A base) n q = 45 := hop.resolve_left g1
          refine ⟨2 * (60 - (PR (bb A base) n u 4 (q + 1) o).2.1) + 1, by omega, rfl, Or.inl ⟨_, _, _, hle, rfl, rfl, key.2.1, ?_, key.1, Or.inl ⟨rfl, rfl⟩⟩⟩
          rw [key.2.2, g4, jn_sub]
        · have g1 : hr (bb A base) n q = 43 := Classical.not_not.mp g1
          refine ⟨2 * (60 - (PR (bb A base) n u 4 (q + 1) o).2.1) + 1, by omega, rfl, Or.inl ⟨_, _, _, hle, rfl, rfl, key.2.1, ?_, key.1, Or.inl ⟨rfl, rfl⟩⟩⟩
          rw [key.2.2, g1, jn_add]
      · have key := lp_bad hR hK g
        have hle : (PR (bb A base) n u 4 (q + 1) o).2.1 ≤ n := PRle hq1
        refine And.intro (fun g1 => ?_) (fun g1 => ?_)
        · exact ⟨0, by omega, rfl, Or.inr ⟨rfl, _, F', rfl, rfl, rfl, by rw [key.2]; exact FB_at hF, key.1, by rw [key.2]; exact hle⟩⟩
        · exact ⟨0, by omega, rfl, Or.inr ⟨rfl, _, F', rfl, rfl, rfl, by rw [key.2]; exact FB_at hF, key.1, by rw [key.2]; exact hle⟩⟩
    · have hpos := FB_pos hF (by omega)
      refine ⟨A, F', rfl, rfl, Or.inr ⟨hpos, ?_⟩⟩
      refine br_f (show ¬ (-1 : Int32) = 43 by decide) ?_
      refine ⟨A, F', rfl, rfl, Or.inr ⟨hpos, ?_⟩⟩
      refine br_t (show ¬ (-1 : Int32) = 45 by decide) ?_
      exact h2 hb v F' hF
set_option maxRecDepth 10000 in
set_option maxHeartbeats 1000000 in
theorem pX10_compared (j d : Nat) (hU : xCT d yX10_sum cX10_sum 4 (some .int) (sP 3 j)) : xCT (d + 1) yX10_compared cX10_compared 4 (some .int) (sP 2 j) := by
  refine xmet (tb := tX10_compared) (fl := fX10) (kc := nX10) (gs := g0) (cl := xlk [(82, true, 1, xrcv 10 sX10_here), (100, true, 1, xrcv 10 (sP 3 j))]) (by decide) tX10_compared_ok fX10_ok nX10_ok g0_ok (xg_cons (k_X10_82 (mX10_here d (by omega))) (xg_cons (k_X10_100 hU) xg_nil)) ?_
  rintro L xs as w Qp ⟨A, F, base, p, n, o, u, rfl, rfl, hPS, hj, ho, h1, h2⟩
  have hn : n ≤ 50 := hPS.2.2.2.2.2.2.2.2.1
  have hp : p ≤ n := hPS.2.2.2.2.2.2.2.2.2
  have hR0 := PR_2 (b := bb A base) (u := u) (p := p) (o := o) hn
  generalize PR (bb A base) n u 2 p o = R at h1 h2 hR0
  refine ⟨Nat.le_of_ble_eq_true rfl, 400, xlk [(30, 3), (78, 1), (82, 1)], fun m pc ls st w => st = [] ∧ ((pc = 30 ∧ m = 5 ∧ ∃ q, (PR (bb A base) n u 3 p o).1 = true ∧ (PR (bb A base) n u 3 p o).2.1 = q ∧ q ≤ n ∧ (hr (bb A base) n q = 60 ∨ hr (bb A base) n q = 61 ∨ hr (bb A base) n q = 62) ∧ ls = [(0, .ref 0), (1, .int (VV (A 4) (PR (bb A base) n u 3 p o).2.2)), (2, .int (hr (bb A base) n q))] ∧ w = LM A (fset F 5 (nI q))) ∨ (pc = 78 ∧ m = 0 ∧ ls = [(0, .ref 0)] ∧ ∃ F', w = LM A F' ∧ Qp (some (.int 1)) (LM A F')) ∨ (pc = 82 ∧ m = 0 ∧ ls = [(0, .ref 0)] ∧ ∃ F', w = LM A F' ∧ Qp (some (.int 0)) (LM A F'))), ?_, ?_⟩
  · refine ⟨A, F, base, p, n, o, u, rfl, rfl, hPS, hj, ho, fun g => ?_, fun g v F' hF => ?_⟩
    · have hq : (PR (bb A base) n u 3 p o).2.1 ≤ n := PRle hp
      refine ⟨A, _, rfl, rfl, Or.inl ⟨base, _, n, o, u, PS_at hPS hq, ?_⟩⟩
      refine And.intro (fun q => ⟨5, rfl, Or.inl ⟨rfl, rfl, _, g, rfl, hq, Or.inl q, rfl, rfl⟩⟩) (fun g1 => ?_)
      refine And.intro (fun q => ⟨5, rfl, Or.inl ⟨rfl, rfl, _, g, rfl, hq, Or.inr (Or.inl q), rfl, rfl⟩⟩) (fun g2 => ?_)
      refine And.intro (fun q => ⟨5, rfl, Or.inl ⟨rfl, rfl, _, g, rfl, hq, Or.inr (Or.inr q), rfl, rfl⟩⟩) (fun g3 => ?_)
      have e : R = (true, (PR (bb A base) n u 3 p o).2.1, (PR (bb A base) n u 3 p o).2.2) := by
        rw [hR0, cat2_i (pt_eq _ g) (cif_f (fun q => by rcases q with q | q | q <;> first | exact g1 q | exact g2 q | exact g3 q)), List.append_nil]
      subst e
      exact h1 rfl
    · have e : R.1 = false ∧ R.2.1 = (PR (bb A base) n u 3 p o).2.1 := by rw [hR0, cat2_f1 g]; exact ⟨rfl, rfl⟩
      have hle : (PR (bb A base) n u 3 p o).2.1 ≤ n := PRle hp
      have hpos := FB_pos hF (by omega)
      refine ⟨A, F', rfl, rfl, Or.inr ⟨hpos, ?_⟩⟩
      refine br_f (show ¬ (-1 : Int32) = 60 by decide) (br_f (show ¬ (-1 : Int32) = 61 by decide) (br_f (show ¬ (-1 : Int32) = 62 by decide) ?_))
      exact h2 e.1 v F' (by rw [e.2]; exact hF)
  · rintro m pc m9 ls st w hc ⟨rfl, ⟨rfl, rfl, q, hok, rfl, hq, hop, rfl, rfl⟩ | ⟨rfl, rfl, rfl, F', rfl, h⟩ | ⟨rfl, rfl, rfl, F', rfl, h⟩⟩
    · have hq1 : (PR (bb A base) n u 3 p o).2.1 + 1 ≤ n := by rcases hop with g | g | g <;> exact hr_lt g (by decide)
      generalize hqe : (PR (bb A base) n u 3 p o).2.1 = q at hq hop hq1 ⊢
      have hop2 : isop (hr (bb A base) n q) := by rcases hop with g | g | g <;> rw [g] <;> unfold isop <;> simp
      have w1 := PRok (A 4) (by omega) hok
      refine ⟨A, fset F 5 (nI (q + 1)), base, q + 1, n, o, u, rfl, by rw [← nI_1]; rfl, PS_at hPS hq1, hj, ho, fun g => ?_, fun g v' F' hF => ?_⟩
      · have w2 := PRok (A 4) (by omega) g
        have w3 := WX_op w2 (isop_n hop2).1 (isop_n hop2).2
        have w4 := WV_cat w1 w3.1
        have e : R = (true, (PR (bb A base) n u 3 (q + 1) o).2.1, (PR (bb A base) n u 3 p o).2.2 ++ ((PR (bb A base) n u 3 (q + 1) o).2.2 ++ [-(hr (bb A base) n q)])) := by
          rw [hR0, cat2_i (pt_eq _ hok) (by rw [hqe, cif_t hop, cat2_i (pt_eq _ g) rfl])]
        have hv : ∀ x : Int32, jn (hr (bb A base) n q) (VV (A 4) (PR (bb A base) n u 3 p o).2.2) (VV (A 4) (PR (bb A base) n u 3 (q + 1) o).2.2) = x → Qp (some (.int x)) (LM A (fset F 5 (nI (PR (bb A base) n u 3 (q + 1) o).2.1))) := by
          intro x hx
          subst e
          have h9 := h1 rfl
          have e9 : VV (A 4) ((PR (bb A base) n u 3 p o).2.2 ++ ((PR (bb A base) n u 3 (q + 1) o).2.2 ++ [-(hr (bb A base) n q)])) = x := by rw [w4.2, w3.2, hx]
          rw [← e9]
          exact h9
        refine And.intro (fun g1 => ?_) (fun g1 => ?_)
        · have g1 : ¬ hr (bb A base) n q = 60 := g1
          refine And.intro (fun g2 => ?_) (fun g2 => ?_)
          · have g2 : ¬ hr (bb A base) n q = 61 := g2
            have g3 : hr (bb A base) n q = 62 := (hop.resolve_left g1).resolve_left g2
            rw [g3] at hv
            refine And.intro (fun g4 => ?_) (fun g4 => ?_)
            · exact ⟨0, by omega, rfl, Or.inr (Or.inr ⟨rfl, rfl, rfl, _, rfl, hv 0 (by rw [jn_gt, cif_f (fun q => (fa_of_lt q).2.1 g4)])⟩)⟩
            · exact ⟨0, by omega, rfl, Or.inr (Or.inl ⟨rfl, rfl, rfl, _, rfl, hv 1 (by rw [jn_gt, cif_t (fa_of_nle g4)])⟩)⟩
          · have g2 : hr (bb A base) n q = 61 := Classical.not_not.mp g2
            rw [g2] at hv
            refine And.intro (fun g4 => ?_) (fun g4 => ?_)
            · exact ⟨0, by omega, rfl, Or.inr (Or.inr ⟨rfl, rfl, rfl, _, rfl, hv 0 (by rw [jn_eq, cif_f g4])⟩)⟩
            · exact ⟨0, by omega, rfl, Or.inr (Or.inl ⟨rfl, rfl, rfl, _, rfl, hv 1 (by rw [jn_eq, cif_t (Classical.not_not.mp g4)])⟩)⟩
        · have g1 : hr (bb A base) n q = 60 := Classical.not_not.mp g1
          rw [g1] at hv
          refine And.intro (fun g4 => ?_) (fun g4 => ?_)
          · exact ⟨0, by omega, rfl, Or.inr (Or.inr ⟨rfl, rfl, rfl, _, rfl, hv 0 (by rw [jn_lt, cif_f (fun q => (fa_of_lt q).2.1 g4)])⟩)⟩
          · exact ⟨0, by omega, rfl, Or.inr (Or.inl ⟨rfl, rfl, rfl, _, rfl, hv 1 (by rw [jn_lt, cif_t (fa_of_nle g4)])⟩)⟩
      · have e : R.1 = false ∧ R.2.1 = (PR (bb A base) n u 3 (q + 1) o).2.1 := by
          have e2 : R = (false, (PR (bb A base) n u 3 (q + 1) o).2.1, []) := by
            rw [hR0, cat2_f2 hok (by rw [hqe, cif_t hop, cat2_f1 g]), hqe, cif_t hop, cat2_f1 g]
          rw [e2]
          exact ⟨rfl, rfl⟩
        have hv : ∀ x : Int32, Qp (some (.int x)) (LM A F') := fun x => h2 e.1 x F' (by rw [e.2]; exact FB_at hF)
        refine And.intro (fun g1 => ?_) (fun g1 => ?_)
        · refine And.intro (fun g2 => ?_) (fun g2 => ?_)
          · refine And.intro (fun g4 => ?_) (fun g4 => ?_)
            · exact ⟨0, by omega, rfl, Or.inr (Or.inr ⟨rfl, rfl, rfl, _, rfl, hv 0⟩)⟩
            · exact ⟨0, by omega, rfl, Or.inr (Or.inl ⟨rfl, rfl, rfl, _, rfl, hv 1⟩)⟩
          · refine And.intro (fun g4 => ?_) (fun g4 => ?_)
            · exact ⟨0, by omega, rfl, Or.inr (Or.inr ⟨rfl, rfl, rfl, _, rfl, hv 0⟩)⟩
            · exact ⟨0, by omega, rfl, Or.inr (Or.inl ⟨rfl, rfl, rfl, _, rfl, hv 1⟩)⟩
        · refine And.intro (fun g4 => ?_) (fun g4 => ?_)
          · exact ⟨0, by omega, rfl, Or.inr (Or.inr ⟨rfl, rfl, rfl, _, rfl, hv 0⟩)⟩
          · exact ⟨0, by omega, rfl, Or.inr (Or.inl ⟨rfl, rfl, rfl, _, rfl, hv 1⟩)⟩
    · exact h
    · exact h
set_option maxRecDepth 10000 in
set_option maxHeartbeats 1000000 in
theorem pX10_both (j d : Nat) (hd : 1 ≤ d) (hU : xCT d yX10_compared cX10_compared 4 (some .int) (sP 2 j)) : xCT (d + 1) yX10_both cX10_both 3 (some .int) (sP 1 j) := by
  refine xmet (tb := tX10_both) (fl := fX10) (kc := nX10) (gs := g0) (cl := xlk [(93, true, 2, xrcv 10 sX10_takes), (97, true, 1, xrcv 10 (sP 2 j))]) (by decide) tX10_both_ok fX10_ok nX10_ok g0_ok (xg_cons (k_X10_93 (mX10_takes d (by omega))) (xg_cons (k_X10_97 hU) xg_nil)) ?_
  rintro L xs as w Qp ⟨A, F, base, p, n, o, u, rfl, rfl, hPS, hj, ho, h1, h2⟩
  have hn : n ≤ 50 := hPS.2.2.2.2.2.2.2.2.1
  have hp : p ≤ n := hPS.2.2.2.2.2.2.2.2.2
  have hR0 := PR_1 (b := bb A base) (u := u) (p := p) (o := o) hn
  generalize PR (bb A base) n u 1 p o = R at h1 h2 hR0
  refine ⟨Nat.le_of_ble_eq_true rfl, 400, xlk [(5, 2)], fun m pc ls st w => st = [] ∧ pc = 5 ∧ ((∃ q v ps, q ≤ n ∧ ls = [(0, .ref 0), (1, .int v)] ∧ w = LM A (fset F 5 (nI q)) ∧ WV (A 4) ps ∧ VV (A 4) ps = v ∧ R = cat2 (true, q, ps) (fun q => PR (bb A base) n u 7 q o) ∧ m = 60 - q) ∨ (∃ v F', m = 0 ∧ ls = [(0, .ref 0), (1, .int v)] ∧ w = LM A F' ∧ FB F F' R.2.1 ∧ R.1 = false ∧ R.2.1 ≤ n)), ?_, ?_⟩
  · refine ⟨A, F, base, p, n, o, u, rfl, rfl, hPS, hj, ho, fun g => ?_, fun g v F' hF => ?_⟩
    · refine ⟨_, rfl, rfl, Or.inl ⟨_, _, _, PRle hp, rfl, rfl, PRok (A 4) (by omega) g, rfl, ?_, rfl⟩⟩
      rw [hR0, ← pt_eq _ g]
    · have e : R.1 = false ∧ R.2.1 = (PR (bb A base) n u 2 p o).2.1 := by rw [hR0, cat2_f1 g]; exact ⟨rfl, rfl⟩
      exact ⟨0, rfl, rfl, Or.inr ⟨v, F', rfl, rfl, rfl, by rw [e.2]; exact hF, e.1, by rw [e.2]; exact PRle hp⟩⟩
  · rintro m pc m9 ls st w hc ⟨rfl, rfl, ⟨q, v, ps, hq, rfl, rfl, w1, hv, hR, rfl⟩ | ⟨v, F', rfl, rfl, rfl, hF, hb, hle⟩⟩
    · refine ⟨A, _, 38, rfl, rfl, Or.inl ⟨base, q, n, o, u, PS_at hPS hq, fun hop => ?_, fun hop => ?_⟩⟩
      · have hq1 : q + 1 ≤ n := hr_lt hop (by decide)
        have hK := (PR_7 (b := bb A base) (u := u) (p := q) (o := o) hn).trans (cif_t hop)
        refine br_f xc_eq1 ?_
        refine ⟨A, fset F 5 (nI (q + 1)), base, q + 1, n, o, u, rfl, rfl, PS_at hPS hq1, hj, ho, fun g => ?_, fun g v' F' hF => ?_⟩
        · have key := lp_go (nm := A 4) (s := 38) hR hK g (by unfold isop; simp) w1 (PRok (A 4) (by omega) g)
          have hge : q + 1 ≤ (PR (bb A base) n u 2 (q + 1) o).2.1 := PRge
          have hle : (PR (bb A base) n u 2 (q + 1) o).2.1 ≤ n := PRle hq1
          rw [hv, jn_and] at key
          refine And.intro (fun g1 => ?_) (fun g1 => ?_)
          · refine ⟨60 - (PR (bb A base) n u 2 (q + 1) o).2.1, by omega, rfl, rfl, Or.inl ⟨_, _, _, hle, rfl, rfl, key.2.1, ?_, key.1, rfl⟩⟩
            rw [key.2.2, cif_f (fun q => q.1 g1)]
            rfl
          · refine And.intro (fun g2 => ?_) (fun g2 => ?_)
            · refine ⟨60 - (PR (bb A base) n u 2 (q + 1) o).2.1, by omega, rfl, rfl, Or.inl ⟨_, _, _, hle, rfl, rfl, key.2.1, ?_, key.1, rfl⟩⟩
              rw [key.2.2, cif_f (fun q => q.2 g2)]
              rfl
            · refine ⟨60 - (PR (bb A base) n u 2 (q + 1) o).2.1, by omega, rfl, rfl, Or.inl ⟨_, _, _, hle, rfl, rfl, key.2.1, ?_, key.1, rfl⟩⟩
              rw [key.2.2, cif_t ⟨g1, g2⟩]
              rfl
        · have key := lp_bad (s := 38) hR hK g
          have hle : (PR (bb A base) n u 2 (q + 1) o).2.1 ≤ n := PRle hq1
          refine And.intro (fun g1 => ?_) (fun g1 => ?_)
          · exact ⟨0, by omega, rfl, rfl, Or.inr ⟨_, F', rfl, rfl, rfl, by rw [key.2]; exact FB_at hF, key.1, by rw [key.2]; exact hle⟩⟩
          · exact And.intro (fun g2 => ⟨0, by omega, rfl, rfl, Or.inr ⟨_, F', rfl, rfl, rfl, by rw [key.2]; exact FB_at hF, key.1, by rw [key.2]; exact hle⟩⟩) (fun g2 => ⟨0, by omega, rfl, rfl, Or.inr ⟨_, F', rfl, rfl, rfl, by rw [key.2]; exact FB_at hF, key.1, by rw [key.2]; exact hle⟩⟩)
      · refine br_t xc_eq0 ?_
        have e := lp_end hR ((PR_7 hn).trans (cif_f hop))
        subst e
        rw [← hv]
        exact h1 rfl
    · have hpos := FB_pos hF (by omega)
      refine ⟨A, F', 38, rfl, rfl, Or.inr ⟨hpos, by decide, ?_⟩⟩
      refine br_t xc_eq0 ?_
      exact h2 hb v F' hF
set_option maxRecDepth 10000 in
set_option maxHeartbeats 1000000 in
theorem pX10_either (j d : Nat) (hd : 1 ≤ d) (hU : xCT d yX10_both cX10_both 3 (some .int) (sP 1 j)) : xCT (d + 1) yX10_either cX10_either 3 (some .int) (sP 0 j) := by
  refine xmet (tb := tX10_either) (fl := fX10) (kc := nX10) (gs := g0) (cl := xlk [(93, true, 2, xrcv 10 sX10_takes), (90, true, 1, xrcv 10 (sP 1 j))]) (by decide) tX10_either_ok fX10_ok nX10_ok g0_ok (xg_cons (k_X10_93 (mX10_takes d (by omega))) (xg_cons (k_X10_90 hU) xg_nil)) ?_
  rintro L xs as w Qp ⟨A, F, base, p, n, o, u, rfl, rfl, hPS, hj, ho, h1, h2⟩
  have hn : n ≤ 50 := hPS.2.2.2.2.2.2.2.2.1
  have hp : p ≤ n := hPS.2.2.2.2.2.2.2.2.2
  have hR0 := PR_0 (b := bb A base) (u := u) (p := p) (o := o) hn
  generalize PR (bb A base) n u 0 p o = R at h1 h2 hR0
  refine ⟨Nat.le_of_ble_eq_true rfl, 400, xlk [(5, 2)], fun m pc ls st w => st = [] ∧ pc = 5 ∧ ((∃ q v ps, q ≤ n ∧ ls = [(0, .ref 0), (1, .int v)] ∧ w = LM A (fset F 5 (nI q)) ∧ WV (A 4) ps ∧ VV (A 4) ps = v ∧ R = cat2 (true, q, ps) (fun q => PR (bb A base) n u 6 q o) ∧ m = 60 - q) ∨ (∃ v F', m = 0 ∧ ls = [(0, .ref 0), (1, .int v)] ∧ w = LM A F' ∧ FB F F' R.2.1 ∧ R.1 = false ∧ R.2.1 ≤ n)), ?_, ?_⟩
  · refine ⟨A, F, base, p, n, o, u, rfl, rfl, hPS, hj, ho, fun g => ?_, fun g v F' hF => ?_⟩
    · refine ⟨_, rfl, rfl, Or.inl ⟨_, _, _, PRle hp, rfl, rfl, PRok (A 4) (by omega) g, rfl, ?_, rfl⟩⟩
      rw [hR0, ← pt_eq _ g]
    · have e : R.1 = false ∧ R.2.1 = (PR (bb A base) n u 1 p o).2.1 := by rw [hR0, cat2_f1 g]; exact ⟨rfl, rfl⟩
      exact ⟨0, rfl, rfl, Or.inr ⟨v, F', rfl, rfl, rfl, by rw [e.2]; exact hF, e.1, by rw [e.2]; exact PRle hp⟩⟩
  · rintro m pc m9 ls st w hc ⟨rfl, rfl, ⟨q, v, ps, hq, rfl, rfl, w1, hv, hR, rfl⟩ | ⟨v, F', rfl, rfl, rfl, hF, hb, hle⟩⟩
    · refine ⟨A, _, 124, rfl, rfl, Or.inl ⟨base, q, n, o, u, PS_at hPS hq, fun hop => ?_, fun hop => ?_⟩⟩
      · have hq1 : q + 1 ≤ n := hr_lt hop (by decide)
        have hK := (PR_6 (b := bb A base) (u := u) (p := q) (o := o) hn).trans (cif_t hop)
        refine br_f xc_eq1 ?_
        refine ⟨A, fset F 5 (nI (q + 1)), base, q + 1, n, o, u, rfl, rfl, PS_at hPS hq1, hj, ho, fun g => ?_, fun g v' F' hF => ?_⟩
        · have key := lp_go (nm := A 4) (s := 124) hR hK g (by unfold isop; simp) w1 (PRok (A 4) (by omega) g)
          have hge : q + 1 ≤ (PR (bb A base) n u 1 (q + 1) o).2.1 := PRge
          have hle : (PR (bb A base) n u 1 (q + 1) o).2.1 ≤ n := PRle hq1
          rw [hv, jn_or] at key
          refine And.intro (fun g1 => ?_) (fun g1 => ?_)
          · refine ⟨60 - (PR (bb A base) n u 1 (q + 1) o).2.1, by omega, rfl, rfl, Or.inl ⟨_, _, _, hle, rfl, rfl, key.2.1, ?_, key.1, rfl⟩⟩
            exact key.2.2.trans (cif_t (Or.inl g1))
          · have g1 : v = 0 := Classical.not_not.mp g1
            refine And.intro (fun g2 => ?_) (fun g2 => ?_)
            · refine ⟨60 - (PR (bb A base) n u 1 (q + 1) o).2.1, by omega, rfl, rfl, Or.inl ⟨_, _, _, hle, rfl, rfl, key.2.1, ?_, key.1, rfl⟩⟩
              rw [key.2.2, cif_f (fun q => q.elim (fun q => q g1) (fun q => q g2))]
              rfl
            · refine ⟨60 - (PR (bb A base) n u 1 (q + 1) o).2.1, by omega, rfl, rfl, Or.inl ⟨_, _, _, hle, rfl, rfl, key.2.1, ?_, key.1, rfl⟩⟩
              exact key.2.2.trans (cif_t (Or.inr g2))
        · have key := lp_bad (s := 124) hR hK g
          have hle : (PR (bb A base) n u 1 (q + 1) o).2.1 ≤ n := PRle hq1
          refine And.intro (fun g1 => ?_) (fun g1 => ?_)
          · exact ⟨0, by omega, rfl, rfl, Or.inr ⟨_, F', rfl, rfl, rfl, by rw [key.2]; exact FB_at hF, key.1, by rw [key.2]; exact hle⟩⟩
          · exact And.intro (fun g2 => ⟨0, by omega, rfl, rfl, Or.inr ⟨_, F', rfl, rfl, rfl, by rw [key.2]; exact FB_at hF, key.1, by rw [key.2]; exact hle⟩⟩) (fun g2 => ⟨0, by omega, rfl, rfl, Or.inr ⟨_, F', rfl, rfl, rfl, by rw [key.2]; exact FB_at hF, key.1, by rw [key.2]; exact hle⟩⟩)
      · refine br_t xc_eq0 ?_
        have e := lp_end hR ((PR_6 hn).trans (cif_f hop))
        subst e
        rw [← hv]
        exact h1 rfl
    · have hpos := FB_pos hF (by omega)
      refine ⟨A, F', 124, rfl, rfl, Or.inr ⟨hpos, by decide, ?_⟩⟩
      refine br_t xc_eq0 ?_
      exact h2 hb v F' hF
