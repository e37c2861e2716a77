/-! ===== the class: voices ===== -/
def VOw (T : Nat → Int32) (c a w m : Int32) : XW := [.inr (8, [.ref 1, .int c, .int a, .int w, .int m]), .inl (0, 40, .inl T)]
def lvl8 : Nat → Nat
  | 0 => 0
  | 1 => 1
  | 2 => 1
  | 3 => 1
  | _ => 2
def rk8 (act p : Nat) : Nat := (if act = 1 then 3 else if act = 3 then 6 else 0) + lvl8 p
def bod (act p : Nat) : Int32 := xbo.getD (4 * p + act) 0
noncomputable def gv (act w a : Nat) (m : Int32) (q : Nat) (x : Int32) (σ : VS) : Int32 × VS := match act with
  | 0 => hrs w q x σ
  | 1 => vcs w a m q x σ
  | 2 => rss m q x σ
  | _ => tls w a m q x σ
theorem q4 {q : Nat} (h : q < 4) : q = 0 ∨ q = 1 ∨ q = 2 ∨ q = 3 := by omega
theorem gv_up {act w a : Nat} {m : Int32} {q : Nat} {x : Int32} {σ : VS} (ha : act < 4) (hq : q < 7) (h0 : q ≠ 0) (hb : bod act q = 0) : gv act w a m q x σ = gv act w a m (abv q) x σ := by
  rcases q4 ha with rfl | rfl | rfl | rfl <;> rcases q7 hq with rfl | rfl | rfl | rfl | rfl | rfl | rfl <;> first | exact absurd rfl h0 | exact absurd hb (by decide) | rfl
theorem rk_up {act q : Nat} (hq : q < 7) (h0 : q ≠ 0) : rk8 act (abv q) < rk8 act q ∧ lvl8 (abv q) < lvl8 q ∧ abv q < 7 ∧ lvl8 q ≤ 2 ∧ xka.getD q 0 = nI (abv q) := by
  rcases q7 hq with rfl | rfl | rfl | rfl | rfl | rfl | rfl
  · exact absurd rfl h0
  all_goals exact ⟨by unfold rk8; exact Nat.add_lt_add_left (by decide) _, by decide, by decide, by decide, rfl⟩
theorem bod0 {act : Nat} (ha : act < 4) : ¬ bod act 0 = 0 := by
  rcases q4 ha with rfl | rfl | rfl | rfl <;> decide
def sFl (r : Nat) : XS := fun as W post => ∃ (σ : VS) (w a q act deep : Nat) (m x : Int32), as = [.ref 0, .int (nI q), .int (nI act), .int x, .int (nI deep)] ∧ W = VOw (σ.1 14) (σ.2 24) (nI a) (nI w) m ∧ bd (σ.2 24) 41 ∧ a < 7 ∧ q < 7 ∧ act < 4 ∧ rk8 act q < r ∧ deep + rk8 act q ≤ 40 ∧ ∀ ρ, ρ = gv act w a m q x σ → bd (ρ.2.2 24) 41 → post (some (.int ρ.1)) (VOw (ρ.2.1 14) (ρ.2.2 24) (nI a) (nI w) m)
def sOw (r : Nat) : XS := fun as W post => ∃ (σ : VS) (w a act deep : Nat) (m x : Int32), as = [.ref 0, .int (nI act), .int x, .int (nI deep)] ∧ W = VOw (σ.1 14) (σ.2 24) (nI a) (nI w) m ∧ bd (σ.2 24) 41 ∧ a < 7 ∧ act < 4 ∧ rk8 act a < r ∧ deep + rk8 act a ≤ 40 ∧ ∀ ρ, ρ = gv act w a m a x σ → bd (ρ.2.2 24) 41 → post (some (.int ρ.1)) (VOw (ρ.2.1 14) (ρ.2.2 24) (nI a) (nI w) m)
/-- what a body does, once it is written down -/
def sPf (r : Nat) : XS := fun as W post => ∃ (σ σ1 : VS) (w a p act deep : Nat) (m x b : Int32), as = [.ref 0, .int b, .int (xka.getD p 0), .int x, .int (nI (deep + 1))] ∧ b = bod act p ∧ σ1 = rn b σ ∧ W = VOw (σ1.1 14) (σ1.2 24) (nI a) (nI w) m ∧ bd (σ.2 24) 41 ∧ a < 7 ∧ p < 7 ∧ act < 4 ∧ ¬ bod act p = 0 ∧ rk8 act p < r ∧ deep + rk8 act p ≤ 40 ∧ ∀ ρ, ρ = gv act w a m p x σ → bd (ρ.2.2 24) 41 → post (some (.int ρ.1)) (VOw (ρ.2.1 14) (ρ.2.2 24) (nI a) (nI w) m)
theorem bd_rn {σ : VS} (h : bd (σ.2 24) 41) (x : Int32) : bd ((rn x σ).2 24) 41 := by
  obtain ⟨j, hj, e⟩ := h
  unfold rn
  by_cases g : 40 ≤ σ.2 24
  · rw [cif_t g]
    exact ⟨j, hj, e⟩
  · rw [cif_f g]
    refine ⟨j + 1, ?_, ?_⟩
    · refine Classical.byContradiction (fun q => g ?_)
      rw [e]
      exact nI_le (a := 40) (by omega) (by omega)
    · show σ.2 24 + 1 = _
      rw [e, nI_1]
theorem bd_hrs {σ : VS} (h : bd (σ.2 24) 41) (w q : Nat) (x : Int32) : bd ((hrs w q x σ).2.2 24) 41 := by
  unfold hrs
  split
  · exact bd_rn h 10
  · exact bd_rn (bd_rn h 30) 10
  · exact bd_rn (bd_rn (bd_rn h 50) 30) 10
  · exact bd_rn h 10
theorem bd_rss {σ : VS} (h : bd (σ.2 24) 41) (m : Int32) (q : Nat) (x : Int32) : bd ((rss m q x σ).2.2 24) 41 := by
  unfold rss
  split
  · exact bd_rn (bd_rn h 40) 12
  · exact bd_rn (bd_rn h 40) 12
  · exact bd_rn h 12
theorem bd_vc0 {σ : VS} (h : bd (σ.2 24) 41) (w a : Nat) (x : Int32) : bd ((vc0 w a x σ).2.2 24) 41 := bd_hrs (bd_rn h 11) w a x
theorem bd_vc1 {σ : VS} (h : bd (σ.2 24) 41) (w a : Nat) (m x : Int32) : bd ((vc1 w a m x σ).2.2 24) 41 := bd_rss (bd_vc0 (bd_rn h 20) w a x) m a 1
theorem bd_vcs {σ : VS} (h : bd (σ.2 24) 41) (w a : Nat) (m : Int32) (q : Nat) (x : Int32) : bd ((vcs w a m q x σ).2.2 24) 41 := by
  unfold vcs
  split
  · exact bd_vc1 h w a m x
  · exact bd_vc1 (bd_rn h 70) w a m x
  · exact bd_vc0 h w a x
theorem bd_tl0 {σ : VS} (h : bd (σ.2 24) 41) (w a : Nat) (m x : Int32) : bd ((tl0 w a m x σ).2.2 24) 41 := bd_rss (bd_vcs (bd_rn h 13) w a m a x) m a x
theorem bd_gv {σ : VS} (h : bd (σ.2 24) 41) (act w a : Nat) (m : Int32) (q : Nat) (x : Int32) : bd ((gv act w a m q x σ).2.2 24) 41 := by
  unfold gv
  split
  · exact bd_hrs h w q x
  · exact bd_vcs h w a m q x
  · exact bd_rss h m q x
  · unfold tls
    split
    · exact bd_hrs (bd_tl0 (bd_rn h 60) w a m x) w a 2
    · exact bd_tl0 (bd_vcs (bd_rn h 71) w a m a x) w a m x
    · exact bd_tl0 h w a m x
set_option maxRecDepth 10000 in
set_option maxHeartbeats 1000000 in
theorem pX8_own (r d : Nat) (hF : xCT d yX8_from cX8_from 7 (some .int) (sFl r)) : xCT (d + 1) yX8_own cX8_own 4 (some .int) (sOw r) := by
  refine xmet0 (tb := tX8_own) (fl := fX8) (kc := nX8) (gs := g0) (cl := xlk [(40, true, 5, xrcv 8 (sFl r))]) 400 (by decide) tX8_own_ok fX8_ok nX8_ok g0_ok (xg_cons (k_X8_40 hF) xg_nil) ?_
  rintro L xs as W Qp ⟨σ, w, a, act, deep, m, x, rfl, rfl, hb, ha, hact, hr, hd, h⟩
  refine ⟨Nat.le_of_ble_eq_true rfl, ?_⟩
  exact ⟨σ, w, a, a, act, deep, m, x, rfl, rfl, hb, ha, ha, hact, hr, hd, h⟩
set_option maxRecDepth 10000 in
set_option maxHeartbeats 1000000 in
theorem pX8_from (r d : Nat) (hP : xCT d yX8_perform cX8_perform 5 (some .int) (sPf r)) : xCT (d + 1) yX8_from cX8_from 7 (some .int) (sFl r) := by
  refine xmet (tb := tX8_from) (fl := fX8) (kc := nX8) (gs := gX8) (cl := xlk [(50, true, 5, xrcv 8 (sPf r))]) (by decide) tX8_from_ok fX8_ok nX8_ok gX8_ok (xg_cons (k_X8_50 hP) xg_nil) ?_
  rintro L xs as W Qp ⟨σ, w, a, q, act, deep, m1, x, rfl, rfl, hb, ha, hq, hact, hr, hd, h⟩
  refine ⟨Nat.le_of_ble_eq_true rfl, 400, xlk [(6, 7), (47, 6)], fun m pc ls st W => st = [] ∧ W = VOw (σ.1 14) (σ.2 24) (nI a) (nI w) m1 ∧ ∃ p, p < 7 ∧ rk8 act p ≤ rk8 act q ∧ gv act w a m1 p x σ = gv act w a m1 q x σ ∧ ((pc = 6 ∧ ∃ i, i + lvl8 p ≤ 2 ∧ m = 1 + lvl8 p ∧ ls = [(0, .ref 0), (1, .int (nI q)), (2, .int (nI act)), (3, .int x), (4, .int (nI deep)), (5, .int (nI p)), (6, .int (nI i))]) ∨ (pc = 47 ∧ m = 0 ∧ ¬ bod act p = 0 ∧ ls = [(0, .ref 0), (1, .int (nI q)), (2, .int (nI act)), (3, .int x), (4, .int (nI deep)), (5, .int (nI p))])), ?_, ?_⟩
  · have hl : lvl8 q ≤ 2 := by rcases q7 hq with rfl | rfl | rfl | rfl | rfl | rfl | rfl <;> decide
    exact ⟨1 + lvl8 q, rfl, rfl, q, hq, Nat.le_refl _, rfl, Or.inl ⟨rfl, 0, by omega, rfl, rfl⟩⟩
  · rintro m pc m9 ls st W hc ⟨rfl, rfl, p, hp, hrk, hgv, ⟨rfl, i, hi, rfl, rfl⟩ | ⟨rfl, rfl, hbo, rfl⟩⟩
    · have e4 : nI p * 4 + nI act = nI (4 * p + act) := by rw [show (4 : Int32) = nI 4 from rfl, pk_mul, nI_add, Nat.mul_comm]
      have ebo : xcf xs 1 (nI p * 4 + nI act).toNatClampNeg = bod act p := by
        rw [e4, cl (by omega)]
        rfl
      refine And.intro (fun g => ?_) (fun g => ?_)
      · have := ge_n (x := 7) (k := 7) rfl (by omega) (by omega) g
        omega
      · refine And.intro (fun g2 => ?_) (fun g2 => ?_)
        · have g2 : nI p ≤ 0 := g2
          have ep : p = 0 := by
            refine Classical.byContradiction (fun q => ?_)
            exact absurd (nI_lt (a := 0) (b := p) (by omega) (by omega)) (fun q2 => (fa_of_lt q2).2.1 g2)
          subst ep
          exact ⟨0, by omega, rfl, rfl, 0, hp, hrk, hgv, Or.inr ⟨rfl, rfl, bod0 hact, rfl⟩⟩
        · have g2 : ¬ nI p ≤ 0 := g2
          have hp0 : p ≠ 0 := fun q => g2 (by rw [q]; decide)
          refine And.intro (by show vp_in (nI p * 4 + nI act) 28; rw [e4]; exact vp_in_nI (by omega) (by decide)) ?_
          refine And.intro (fun g3 => ?_) (fun g3 => ?_)
          · have g3 : ¬ xcf xs 1 (nI p * 4 + nI act).toNatClampNeg = 0 := g3
            rw [ebo] at g3
            exact ⟨0, by omega, rfl, rfl, p, hp, hrk, hgv, Or.inr ⟨rfl, rfl, g3, rfl⟩⟩
          · have g3 : xcf xs 1 (nI p * 4 + nI act).toNatClampNeg = 0 := Classical.byContradiction g3
            rw [ebo] at g3
            obtain ⟨u1, u2, u3, u4, u5⟩ := rk_up (act := act) hp hp0
            refine And.intro (show vp_in (nI p) 7 from vp_in_nI (by omega) (by decide)) ?_
            refine ⟨1 + lvl8 (abv p), by omega, rfl, rfl, abv p, u3, by omega, (gv_up hact hp hp0 g3).symm.trans hgv, Or.inl ⟨rfl, i + 1, by omega, rfl, ?_⟩⟩
            rw [← u5, ← nI_1 i]
            have e : xka.getD p 0 = xcf xs 0 (nI p).toNatClampNeg := by
              rw [cl (by omega)]
              rfl
            rw [e]
            rfl
    · have e4 : nI p * 4 + nI act = nI (4 * p + act) := by rw [show (4 : Int32) = nI 4 from rfl, pk_mul, nI_add, Nat.mul_comm]
      have ebo : xcf xs 1 (nI p * 4 + nI act).toNatClampNeg = bod act p := by
        rw [e4, cl (by omega)]
        rfl
      have eka : xcf xs 0 (nI p).toNatClampNeg = xka.getD p 0 := by
        rw [cl (by omega)]
        rfl
      refine And.intro (fun g => ?_) (fun g => ?_)
      · have g : nI p < 0 := g
        exact absurd (nI_pos' (by omega)) (fa_of_lt g).2.1
      · refine And.intro (fun g2 => ?_) (fun g2 => ?_)
        · refine And.intro (by show vp_in (nI p * 4 + nI act) 28; rw [e4]; exact vp_in_nI (by omega) (by decide)) ?_
          obtain ⟨c, hc2, ec⟩ := hb
          refine And.intro (fun g3 => ?_) (fun g3 => ?_)
          · have g3 : 40 ≤ σ.2 24 := g3
            refine And.intro (show vp_in (nI p) 7 from vp_in_nI (by omega) (by decide)) ?_
            refine ⟨σ, rn (xcf xs 1 (nI p * 4 + nI act).toNatClampNeg) σ, w, a, p, act, deep, m1, x, _, by rw [← eka, ← nI_1 deep]; rfl, ebo, rfl, ?_, ⟨c, hc2, ec⟩, ha, hp, hact, hbo, by omega, by omega, fun ρ hρ hb2 => h ρ (hρ.trans hgv) hb2⟩
            unfold rn
            rw [cif_t g3]
          · have g3 : ¬ 40 ≤ σ.2 24 := g3
            have hc40 : c < 40 := by
              refine Classical.byContradiction (fun q => g3 ?_)
              rw [ec]
              exact nI_le (a := 40) (by omega) (by omega)
            refine And.intro (by show vp_in (σ.2 24) 40; rw [ec]; exact vp_in_nI (by omega) (by decide)) (And.intro (show vp_in (nI p) 7 from vp_in_nI (by omega) (by decide)) ?_)
            refine ⟨σ, rn (xcf xs 1 (nI p * 4 + nI act).toNatClampNeg) σ, w, a, p, act, deep, m1, x, _, by rw [← eka, ← nI_1 deep]; rfl, ebo, rfl, ?_, ⟨c, hc2, ec⟩, ha, hp, hact, hbo, by omega, by omega, fun ρ hρ hb2 => h ρ (hρ.trans hgv) hb2⟩
            unfold rn
            rw [cif_f g3]
            rfl
        · have g2 : ¬ nI deep ≤ nI 40 := g2
          exact absurd (nI_le (a := deep) (b := 40) (by omega) (by omega)) g2
theorem gv_50 {w a : Nat} {m x y : Int32} {σ : VS} (hy : y = 1) : gv 0 w a m 2 (x + y) (rn 50 σ) = gv 0 w a m 4 x σ := by
  subst hy
  show ((x + 1 + nI w) * 3, rn 10 (rn 30 (rn 50 σ))) = ((x + 1 + nI w) * 3, rn 10 (rn 30 (rn 50 σ)))
  rfl
theorem lvl8_2 {a : Nat} (ha : a < 7) : lvl8 a ≤ 2 := by
  rcases q7 ha with rfl | rfl | rfl | rfl | rfl | rfl | rfl <;> decide
set_option maxRecDepth 10000 in
set_option maxHeartbeats 2000000 in
theorem pX8_perform (r d : Nat) (hO : xCT d yX8_own cX8_own 4 (some .int) (sOw r)) (hF : xCT d yX8_from cX8_from 7 (some .int) (sFl r)) : xCT (d + 1) yX8_perform cX8_perform 5 (some .int) (sPf (r + 1)) := by
  refine xmet0 (tb := tX8_perform) (fl := fX8) (kc := nX8) (gs := g0) (cl := xlk [(36, true, 4, xrcv 8 (sOw r)), (40, true, 5, xrcv 8 (sFl r))]) 400 (by decide) tX8_perform_ok fX8_ok nX8_ok g0_ok (xg_cons (k_X8_36 hO) (xg_cons (k_X8_40 hF) xg_nil)) ?_
  rintro L xs as W Qp ⟨σ, σ1, w, a, p, act, deep, m, x, b, rfl, ebb, rfl, rfl, hb, ha, hp, hact, hbo, hr, hd, h⟩
  refine ⟨Nat.le_of_ble_eq_true rfl, ?_⟩
  have hla := lvl8_2 ha
  have r0 : rk8 0 a ≤ 2 := by unfold rk8; rw [if_neg (by decide), if_neg (by decide)]; omega
  have r1 : rk8 1 a ≤ 5 := by unfold rk8; rw [if_pos rfl]; omega
  have r2 : rk8 2 a ≤ 2 := by unfold rk8; rw [if_neg (by decide), if_neg (by decide)]; omega
  have k00 : rk8 0 0 = 0 := rfl
  have k01 : rk8 0 1 = 1 := rfl
  have k02 : rk8 0 2 = 1 := rfl
  have k03 : rk8 0 3 = 1 := rfl
  have k04 : rk8 0 4 = 2 := rfl
  have k05 : rk8 0 5 = 2 := rfl
  have k06 : rk8 0 6 = 2 := rfl
  have k10 : rk8 1 0 = 3 := rfl
  have k11 : rk8 1 1 = 4 := rfl
  have k12 : rk8 1 2 = 4 := rfl
  have k13 : rk8 1 3 = 4 := rfl
  have k14 : rk8 1 4 = 5 := rfl
  have k15 : rk8 1 5 = 5 := rfl
  have k16 : rk8 1 6 = 5 := rfl
  have k20 : rk8 2 0 = 0 := rfl
  have k21 : rk8 2 1 = 1 := rfl
  have k22 : rk8 2 2 = 1 := rfl
  have k23 : rk8 2 3 = 1 := rfl
  have k24 : rk8 2 4 = 2 := rfl
  have k25 : rk8 2 5 = 2 := rfl
  have k26 : rk8 2 6 = 2 := rfl
  have k30 : rk8 3 0 = 6 := rfl
  have k31 : rk8 3 1 = 7 := rfl
  have k32 : rk8 3 2 = 7 := rfl
  have k33 : rk8 3 3 = 7 := rfl
  have k34 : rk8 3 4 = 8 := rfl
  have k35 : rk8 3 5 = 8 := rfl
  have k36 : rk8 3 6 = 8 := rfl
  rcases q4 hact with rfl | rfl | rfl | rfl <;> rcases q7 hp with rfl | rfl | rfl | rfl | rfl | rfl | rfl
  · have ebb : b = 10 := ebb
    subst ebb
    refine And.intro (fun _ => ?_) (fun g => absurd rfl g)
    exact h _ rfl (bd_gv hb 0 w a m 0 x)
  · exact absurd rfl hbo
  · have ebb : b = 30 := ebb
    subst ebb
    refine And.intro (fun g => absurd g (by decide)) (fun _ => And.intro (fun g => absurd g (by decide)) (fun _ => And.intro (fun g => absurd g (by decide)) (fun _ => And.intro (fun g => absurd g (by decide)) (fun _ => And.intro (fun g => absurd g (by decide)) (fun _ => And.intro (fun _ => ?_) (fun g => absurd rfl g))))))
    refine ⟨rn 30 σ, w, a, 0, 0, deep + 1, m, x, rfl, rfl, bd_rn hb _, ha, by omega, by omega, by omega, by omega, fun ρ1 hρ1 hb1 => ?_⟩
    exact h (ρ1.1 * 3, ρ1.2) (by rw [hρ1]; rfl) hb1
  · exact absurd rfl hbo
  · have ebb : b = 50 := ebb
    subst ebb
    refine And.intro (fun g => absurd g (by decide)) (fun _ => And.intro (fun g => absurd g (by decide)) (fun _ => And.intro (fun g => absurd g (by decide)) (fun _ => And.intro (fun g => absurd g (by decide)) (fun _ => And.intro (fun g => absurd g (by decide)) (fun _ => And.intro (fun g => absurd g (by decide)) (fun _ => And.intro (fun g => absurd g (by decide)) (fun _ => And.intro (fun _ => ?_) (fun g => absurd rfl g))))))))
    refine ⟨rn 50 σ, w, a, 2, 0, deep + 1, m, (x + Int32.ofInt 1), rfl, rfl, bd_rn hb _, ha, by omega, by omega, by omega, by omega, fun ρ1 hρ1 hb1 => ?_⟩
    exact h ρ1 (hρ1.trans (gv_50 (by decide))) hb1
  · exact absurd rfl hbo
  · exact absurd rfl hbo
  · have ebb : b = 11 := ebb
    subst ebb
    refine And.intro (fun g => absurd g (by decide)) (fun _ => And.intro (fun _ => ?_) (fun g => absurd rfl g))
    refine ⟨rn 11 σ, w, a, 0, deep + 1, m, x, rfl, rfl, bd_rn hb _, ha, by omega, by omega, by omega, fun ρ1 hρ1 hb1 => ?_⟩
    exact h (ρ1.1 * 2, ρ1.2) (by rw [hρ1]; rfl) hb1
  · have ebb : b = 20 := ebb
    subst ebb
    refine And.intro (fun g => absurd g (by decide)) (fun _ => And.intro (fun g => absurd g (by decide)) (fun _ => And.intro (fun g => absurd g (by decide)) (fun _ => And.intro (fun g => absurd g (by decide)) (fun _ => And.intro (fun _ => ?_) (fun g => absurd rfl g)))))
    refine ⟨rn 20 σ, w, a, 0, 1, deep + 1, m, x, rfl, rfl, bd_rn hb _, ha, by omega, by omega, by omega, by omega, fun ρ1 hρ1 hb1 => ?_⟩
    refine ⟨ρ1.2, w, a, 2, deep + 1, m, 1, rfl, rfl, hb1, ha, by omega, by omega, by omega, fun ρ2 hρ2 hb2 => ?_⟩
    exact h (ρ1.1 - ρ2.1, ρ2.2) (by rw [hρ2, hρ1]; rfl) hb2
  · exact absurd rfl hbo
  · exact absurd rfl hbo
  · exact absurd rfl hbo
  · exact absurd rfl hbo
  · have ebb : b = 70 := ebb
    subst ebb
    refine And.intro (fun g => absurd g (by decide)) (fun _ => And.intro (fun g => absurd g (by decide)) (fun _ => And.intro (fun g => absurd g (by decide)) (fun _ => And.intro (fun g => absurd g (by decide)) (fun _ => And.intro (fun g => absurd g (by decide)) (fun _ => And.intro (fun g => absurd g (by decide)) (fun _ => And.intro (fun g => absurd g (by decide)) (fun _ => And.intro (fun g => absurd g (by decide)) (fun _ => And.intro (fun g => absurd g (by decide)) (fun _ => And.intro (fun _ => ?_) (fun g => absurd rfl g))))))))))
    refine ⟨rn 70 σ, w, a, 1, 1, deep + 1, m, x, rfl, rfl, bd_rn hb _, ha, by omega, by omega, by omega, by omega, fun ρ1 hρ1 hb1 => ?_⟩
    exact h (ρ1.1 ^^^ nI w, ρ1.2) (by rw [hρ1]; rfl) hb1
  · have ebb : b = 12 := ebb
    subst ebb
    refine And.intro (fun g => absurd g (by decide)) (fun _ => And.intro (fun g => absurd g (by decide)) (fun _ => And.intro (fun _ => ?_) (fun g => absurd rfl g)))
    exact h _ rfl (bd_gv hb 2 w a m 0 x)
  · exact absurd rfl hbo
  · exact absurd rfl hbo
  · have ebb : b = 40 := ebb
    subst ebb
    refine And.intro (fun g => absurd g (by decide)) (fun _ => And.intro (fun g => absurd g (by decide)) (fun _ => And.intro (fun g => absurd g (by decide)) (fun _ => And.intro (fun g => absurd g (by decide)) (fun _ => And.intro (fun g => absurd g (by decide)) (fun _ => And.intro (fun g => absurd g (by decide)) (fun _ => And.intro (fun _ => ?_) (fun g => absurd rfl g)))))))
    refine ⟨rn 40 σ, w, a, 0, 2, deep + 1, m, x, rfl, rfl, bd_rn hb _, ha, by omega, by omega, by omega, by omega, fun ρ1 hρ1 hb1 => ?_⟩
    exact h (-ρ1.1, ρ1.2) (by rw [hρ1]; rfl) hb1
  · exact absurd rfl hbo
  · exact absurd rfl hbo
  · exact absurd rfl hbo
  · have ebb : b = 13 := ebb
    subst ebb
    refine And.intro (fun g => absurd g (by decide)) (fun _ => And.intro (fun g => absurd g (by decide)) (fun _ => And.intro (fun g => absurd g (by decide)) (fun _ => And.intro (fun _ => ?_) (fun g => absurd rfl g))))
    refine ⟨rn 13 σ, w, a, 1, deep + 1, m, x, rfl, rfl, bd_rn hb _, ha, by omega, by omega, by omega, fun ρ1 hρ1 hb1 => ?_⟩
    refine ⟨ρ1.2, w, a, 2, deep + 1, m, x, rfl, rfl, hb1, ha, by omega, by omega, by omega, fun ρ2 hρ2 hb2 => ?_⟩
    exact h (ρ1.1 ^^^ ρ2.1, ρ2.2) (by rw [hρ2, hρ1]; rfl) hb2
  · exact absurd rfl hbo
  · exact absurd rfl hbo
  · exact absurd rfl hbo
  · exact absurd rfl hbo
  · have ebb : b = 60 := ebb
    subst ebb
    refine And.intro (fun g => absurd g (by decide)) (fun _ => And.intro (fun g => absurd g (by decide)) (fun _ => And.intro (fun g => absurd g (by decide)) (fun _ => And.intro (fun g => absurd g (by decide)) (fun _ => And.intro (fun g => absurd g (by decide)) (fun _ => And.intro (fun g => absurd g (by decide)) (fun _ => And.intro (fun g => absurd g (by decide)) (fun _ => And.intro (fun g => absurd g (by decide)) (fun _ => And.intro (fun _ => ?_) (fun g => absurd rfl g)))))))))
    refine ⟨rn 60 σ, w, a, 3, 3, deep + 1, m, x, rfl, rfl, bd_rn hb _, ha, by omega, by omega, by omega, by omega, fun ρ1 hρ1 hb1 => ?_⟩
    refine ⟨ρ1.2, w, a, 0, deep + 1, m, 2, rfl, rfl, hb1, ha, by omega, by omega, by omega, fun ρ2 hρ2 hb2 => ?_⟩
    exact h (ρ1.1 - ρ2.1, ρ2.2) (by rw [hρ2, hρ1]; rfl) hb2
  · have ebb : b = 71 := ebb
    subst ebb
    refine And.intro (fun g => absurd g (by decide)) (fun _ => And.intro (fun g => absurd g (by decide)) (fun _ => And.intro (fun g => absurd g (by decide)) (fun _ => And.intro (fun g => absurd g (by decide)) (fun _ => And.intro (fun g => absurd g (by decide)) (fun _ => And.intro (fun g => absurd g (by decide)) (fun _ => And.intro (fun g => absurd g (by decide)) (fun _ => And.intro (fun g => absurd g (by decide)) (fun _ => And.intro (fun g => absurd g (by decide)) (fun _ => And.intro (fun g => absurd g (by decide)) (fun _ => And.intro (fun _ => ?_) (fun g => absurd rfl g)))))))))))
    refine ⟨rn 71 σ, w, a, 1, deep + 1, m, x, rfl, rfl, bd_rn hb _, ha, by omega, by omega, by omega, fun ρ1 hρ1 hb1 => ?_⟩
    refine ⟨ρ1.2, w, a, 1, 3, deep + 1, m, x, rfl, rfl, hb1, ha, by omega, by omega, by omega, by omega, fun ρ2 hρ2 hb2 => ?_⟩
    exact h (ρ1.1 - ρ2.1, ρ2.2) (by rw [hρ2, hρ1]; rfl) hb2
theorem voF : ∀ r d, 3 * r ≤ d → xCT d yX8_from cX8_from 7 (some .int) (sFl r)
  | 0, d, _ => xCT_f (by
    rintro as w post ⟨_, _, _, _, _, _, _, _, _, _, _, _, _, _, h, _⟩
    exact absurd h (Nat.not_lt_zero _))
  | r + 1, d, hd => by
    obtain ⟨e, rfl⟩ : ∃ e, d = e + 3 := ⟨d - 3, by omega⟩
    exact pX8_from (r + 1) (e + 2) (pX8_perform r (e + 1) (pX8_own r e (voF r e (by omega))) (voF r (e + 1) (by omega)))
def sX8_own : XS := sOw 9
theorem mX8_own (d : Nat) (hd : 28 ≤ d) : xCT d yX8_own cX8_own 4 (some .int) sX8_own := by
  obtain ⟨d, rfl⟩ : ∃ e, d = e + 1 := ⟨d - 1, by omega⟩
  exact pX8_own 9 d (voF 9 d (by omega))
def VC (A : XA) (F : Nat → Int32) : XW := [.inr (8, [.ref 1, .int (F 70), .int (F 71), .int (F 72), .int (F 73)]), .inl (0, 40, .inl (A 1)), .inr (1, [.ref 3, .ref 4, .ref 5, .ref 6, .ref 7, .ref 8, .ref 9, .ref 10, .ref 11, .ref 12, .ref 16, .int (F 11), .int (F 12), .int (F 13), .int (F 14), .int (F 15), .int (F 16)]), .inl (0, 8, .inl (A 3)), .inl (0, 8, .inl (A 4)), .inl (0, 8, .inl (A 5)), .inl (0, 8, .inl (A 6)), .inl (0, 8, .inl (A 7)), .inl (0, 8, .inl (A 8)), .inl (0, 8, .inl (A 9)), .inl (1, 50, .inl (A 10)), .inl (0, 20, .inl (A 11)), .inr (2, [.ref 13, .ref 14, .ref 15, .int (F 20)]), .inl (0, 50, .inl (A 13)), .inl (0, 50, .inl (A 14)), .inl (0, 4, .inl (A 15)), .inr (2, [.ref 17, .ref 18, .ref 19, .int (F 21)]), .inl (0, 50, .inl (A 17)), .inl (0, 50, .inl (A 18)), .inl (0, 4, .inl (A 19))]
def VCD : List DC := [.inr (.inr (8, [(0, 1), (1, 70), (1, 71), (1, 72), (1, 73)])), .inl (0, 40), .inr (.inr (1, [(0, 3), (0, 4), (0, 5), (0, 6), (0, 7), (0, 8), (0, 9), (0, 10), (0, 11), (0, 12), (0, 16), (1, 11), (1, 12), (1, 13), (1, 14), (1, 15), (1, 16)])), .inl (0, 8), .inl (0, 8), .inl (0, 8), .inl (0, 8), .inl (0, 8), .inl (0, 8), .inl (0, 8), .inl (1, 50), .inl (0, 20), .inr (.inr (2, [(0, 13), (0, 14), (0, 15), (1, 20)])), .inl (0, 50), .inl (0, 50), .inl (0, 4), .inr (.inr (2, [(0, 17), (0, 18), (0, 19), (1, 21)])), .inl (0, 50), .inl (0, 50), .inl (0, 4)]
theorem VC_dn (A : XA) (F : Nat → Int32) : VC A F = dn A F 0 VCD := rfl
def CP2 : List Nat := [2, 3, 4, 5, 6, 7, 8, 9, 10, 11, 12, 13, 14, 15, 16, 17, 18, 19]
def sX8_sound : XS := fun as w post => ∃ (A : XA) (F D : Nat → Int32) (σ : VS) (n k s a act : Nat) (x : Int32), as = [.ref 0, .ref 2, .int (nI s), .int (nI act), .int x] ∧ w = VC A F ∧ DI D n k ∧ CR D (adn CP2 A) F ∧ s < k ∧ act < 4 ∧ D (8 + 8 * s + 0) = nI a ∧ a < 7 ∧ σ.1 14 = A 1 ∧ σ.2 24 = 0 ∧
  ∀ ρ F', ρ = gv act s a (D (8 + 8 * s + 1)) a x σ → bd (ρ.2.2 24) 41 → F' 70 = ρ.2.2 24 → (∀ q, q < 70 ∨ 73 < q → F' q = F q) → post (some (.int ρ.1)) (VC (aset A 1 (ρ.2.1 14)) F')
set_option maxRecDepth 10000 in
set_option maxHeartbeats 1000000 in
theorem mX8_sound (d : Nat) (hd : 29 ≤ d) : xCT d yX8_sound cX8_sound 5 (some .int) sX8_sound := by
  obtain ⟨d, rfl⟩ : ∃ e, d = e + 1 := ⟨d - 1, by omega⟩
  refine xmet0 (tb := tX8_sound) (fl := fX8) (kc := nX8) (gs := g0) (cl := xlk [(36, true, 4, xrcv 8 (xfrE sX8_own))]) 400 (by decide) tX8_sound_ok fX8_ok nX8_ok g0_ok (xg_cons (k_X8_36 (xCT_frE (mX8_own d (by omega)))) xg_nil) ?_
  rintro L xs as w Qp ⟨A, F, D, σ, n, k, s, a, act, x, rfl, rfl, hI, hC, hs, hact, ea, ha, h14, h24, h⟩
  obtain ⟨hn, hn2, hn12, hk, hk8, hSG, _⟩ := id hI
  have hkN : (D 2).toNatClampNeg = k := by rw [hk, cl (by omega)]
  have hCC := hC.2.2.2.2.2.2.1 s (by rw [hkN]; exact hs)
  have e1 : A 3 (nI s).toNatClampNeg = nI a := by rw [cl (by omega)]; exact hCC.1.trans ea
  have e2 : A 4 (nI s).toNatClampNeg = D (8 + 8 * s + 1) := by rw [cl (by omega)]; exact hCC.2.1
  refine ⟨Nat.le_of_ble_eq_true rfl, ?_⟩
  have i0 : vp_in (nI s) 8 := vp_in_nI (by omega) (by decide)
  refine And.intro i0 (And.intro i0 ?_)
  have hra : rk8 act a < 9 ∧ 0 + rk8 act a ≤ 40 := by
    rcases q4 hact with rfl | rfl | rfl | rfl <;> rcases q7 ha with rfl | rfl | rfl | rfl | rfl | rfl | rfl <;> decide
  refine ⟨[0, 1], [.ref 0, .int (nI act), .int x, .int (nI 0)], VOw (σ.1 14) (σ.2 24) (nI a) (nI s) (D (8 + 8 * s + 1)), rfl, ?_, rfl, σ, s, a, act, 0, D (8 + 8 * s + 1), x, rfl, rfl, ⟨0, by omega, h24⟩, ha, hact, hra.1, hra.2, fun ρ hρ hb => ?_⟩
  · rw [h14, h24, ← e1, ← e2]
    rfl
  · have h9 := h ρ (fset (fset (fset (fset F 71 (nI a)) 73 (D (8 + 8 * s + 1))) 72 (nI s)) 70 (ρ.2.2 24)) hρ hb rfl (fun q hq => (fsN (by omega)).trans ((fsN (by omega)).trans ((fsN (by omega)).trans (fsN (by omega)))))
    exact h9
