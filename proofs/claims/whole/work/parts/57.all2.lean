/-! ===== the class: all states: what is found ===== -/
/-- the states behind -/
def BH (A : XA) (F : Nat → Int32) (b : Nat → Nat) (N : Nat) : Prop := F 63 = nI N ∧ N ≤ 3000 ∧ (∀ c, c < N → A 1 c = nI (b c) ∧ b c < N)
def sX0_after : XS := fun as w post => ∃ (A : XA) (F : Nat → Int32) (b : Nat → Nat) (N c m : Nat), as = [.ref 0, .int (nI c), .int (nI m)] ∧ w = AC A F ∧ BH A F b N ∧ c < N ∧ m < 2 ^ 31 ∧ ∀ v, v = nI (itN b m c) → post (some (.int v)) (AC A F)
set_option maxRecDepth 10000 in
set_option maxHeartbeats 1000000 in
theorem mX0_after (d : Nat) (hd : 0 ≤ d) : xCT d yX0_after cX0_after 5 (some .int) sX0_after := by
  refine xmet (tb := tX0_after) (fl := fX0) (kc := nX0) (gs := g0) (cl := xlk []) (by decide) tX0_after_ok fX0_ok nX0_ok g0_ok xg_nil ?_
  rintro L xs as w Qp ⟨A, F, b, N, c, m1, rfl, rfl, ⟨h63, hN, hb⟩, hcN, hm1, h⟩
  have hit : ∀ m, itN b m c < N := itN_lt (fun c hc => (hb c hc).2) c hcN
  refine ⟨Nat.le_of_ble_eq_true rfl, 400, xlk [(5, 5)], fun m pc ls st w => pc = 5 ∧ st = [] ∧ ∃ i v, i ≤ m1 ∧ m = m1 - i ∧ v = nI (itN b i c) ∧ ls = [(0, .ref 0), (1, .int (nI c)), (2, .int (nI m1)), (3, .int v), (4, .int (nI i))] ∧ w = AC A F, ?_, ?_⟩
  · exact ⟨m1, rfl, rfl, 0, nI c, Nat.zero_le _, rfl, rfl, rfl, rfl⟩
  · rintro m pc m9 ls st w hc ⟨rfl, rfl, i, v, hi, rfl, hv, rfl, rfl⟩
    refine And.intro (fun g => ?_) (fun g => ?_)
    · have := ge_n (k := m1) rfl (by omega) (by omega) g
      exact h v (by rw [hv, show i = m1 by omega])
    · have hlt := nge_n (k := m1) rfl (by omega) (by omega) g
      have hii := hit i
      have iv : vp_in v 3000 := by rw [hv]; exact vp_in_nI (by omega) (by decide)
      refine And.intro iv ?_
      refine ⟨m1 - (i + 1), by omega, rfl, rfl, i + 1, A 1 v.toNatClampNeg, hlt, rfl, ?_, by rw [← nI_1 i]; rfl, rfl⟩
      rw [hv, cl (by omega), (hb _ hii).1]
      rfl
def sX0_find : XS := fun as w post => ∃ (A : XA) (F : Nat → Int32) (s : Int32), as = [.ref 0, .int s] ∧ w = AC A F ∧ (F 60 = 0 → post none (AC A (fset (fset F 61 s) 60 (F 60 + 1)))) ∧ (¬ F 60 = 0 → post none (AC A (fset F 60 (F 60 + 1))))
set_option maxRecDepth 10000 in
set_option maxHeartbeats 1000000 in
theorem mX0_find (d : Nat) (hd : 0 ≤ d) : xCT d yX0_find cX0_find 2 none sX0_find := by
  refine xmet0 (tb := tX0_find) (fl := fX0) (kc := nX0) (gs := g0) (cl := xlk []) 400 (by decide) tX0_find_ok fX0_ok nX0_ok g0_ok xg_nil ?_
  rintro L xs as w Qp ⟨A, F, s, rfl, rfl, h1, h2⟩
  refine ⟨Nat.le_of_ble_eq_true rfl, ?_⟩
  refine And.intro (fun g => ?_) (fun g => ?_)
  · exact h2 g
  · exact h1 (Classical.byContradiction g)
def sX0_findNone : XS := fun as w post => ∃ (A : XA) (F : Nat → Int32), as = [.ref 0] ∧ w = AC A F ∧ post none (AC A (fset (fset F 60 0) 61 (-1)))
set_option maxRecDepth 10000 in
set_option maxHeartbeats 1000000 in
theorem mX0_findNone (d : Nat) (hd : 0 ≤ d) : xCT d yX0_findNone cX0_findNone 1 none sX0_findNone := by
  refine xmet0 (tb := tX0_findNone) (fl := fX0) (kc := nX0) (gs := g0) (cl := xlk []) 400 (by decide) tX0_findNone_ok fX0_ok nX0_ok g0_ok xg_nil ?_
  rintro L xs as w Qp ⟨A, F, rfl, rfl, h⟩
  refine ⟨Nat.le_of_ble_eq_true rfl, ?_⟩
  exact h
theorem firP_0 {p : Nat → Prop} : ∀ {c : Nat}, c < 2 ^ 31 → (cntP p c = 0 ↔ firP p c < 0)
  | 0, _ => ⟨fun _ => by show (-1 : Int32) < 0; decide, fun _ => rfl⟩
  | c + 1, hc => by
    have ih := firP_0 (p := p) (c := c) (by omega)
    show cif (p c) (cntP p c + 1) (cntP p c) = 0 ↔ cif (p c) (cif (firP p c < 0) (nI c) (firP p c)) (firP p c) < 0
    by_cases g : p c
    · rw [cif_t g, cif_t g]
      refine ⟨fun q => absurd q (by omega), fun q => ?_⟩
      by_cases g2 : firP p c < 0
      · rw [cif_t g2] at q
        exact absurd (nI_pos' (by omega)) (fa_of_lt q).2.1
      · rw [cif_f g2] at q
        exact absurd q g2
    · rw [cif_f g, cif_f g]
      exact ih
/-- one found more -/
theorem fnd {p : Nat → Prop} {F : Nat → Int32} {c : Nat} (hc : c < 3000) (h60 : F 60 = nI (cntP p c)) (h61 : F 61 = firP p c) (hp : p c) : (F 60 = 0 → fset (fset F 61 (nI c)) 60 (F 60 + 1) 60 = nI (cntP p (c + 1)) ∧ fset (fset F 61 (nI c)) 60 (F 60 + 1) 61 = firP p (c + 1)) ∧ (¬ F 60 = 0 → fset F 60 (F 60 + 1) 60 = nI (cntP p (c + 1)) ∧ fset F 60 (F 60 + 1) 61 = firP p (c + 1)) := by
  have hle := cntP_le p c
  have e1 : cntP p (c + 1) = cntP p c + 1 := cif_t hp
  have e2 : firP p (c + 1) = cif (firP p c < 0) (nI c) (firP p c) := cif_t hp
  have hf := firP_0 (p := p) (c := c) (by omega)
  refine ⟨fun g => ⟨?_, ?_⟩, fun g => ⟨?_, ?_⟩⟩
  · show F 60 + 1 = _
    rw [h60, e1, nI_1]
  · show nI c = _
    rw [h60] at g
    have g2 : cntP p c = 0 := nI_inj (b := 0) (by omega) (by omega) g
    rw [e2, cif_t (hf.mp g2)]
  · show F 60 + 1 = _
    rw [h60, e1, nI_1]
  · show F 61 = _
    have g2 : ¬ cntP p c = 0 := fun q => g (by rw [h60, q]; rfl)
    rw [e2, cif_f (fun q => g2 (hf.mpr q)), h61]
theorem fndN {p : Nat → Prop} {F : Nat → Int32} {c : Nat} (h60 : F 60 = nI (cntP p c)) (h61 : F 61 = firP p c) (hp : ¬ p c) : F 60 = nI (cntP p (c + 1)) ∧ F 61 = firP p (c + 1) := by
  have e1 : cntP p (c + 1) = cntP p c := cif_f hp
  have e2 : firP p (c + 1) = firP p c := cif_f hp
  rw [e1, e2]
  exact ⟨h60, h61⟩
def sX0_findAhead : XS := fun as w post => ∃ (A : XA) (F : Nat → Int32) (b : Nat → Nat) (N : Nat) (x : Int32), as = [.ref 0, .int x] ∧ w = AC A F ∧ BH A F b N ∧ ∀ F', F' 60 = nI (cntP (fun c => nI (b c) = x) N) → F' 61 = firP (fun c => nI (b c) = x) N → (∀ q, q ≠ 60 → q ≠ 61 → F' q = F q) → post none (AC A F')
set_option maxRecDepth 10000 in
set_option maxHeartbeats 1000000 in
theorem mX0_findAhead (d : Nat) (hd : 1 ≤ d) : xCT d yX0_findAhead cX0_findAhead 3 none sX0_findAhead := by
  obtain ⟨d, rfl⟩ : ∃ e, d = e + 1 := ⟨d - 1, by omega⟩
  refine xmet (tb := tX0_findAhead) (fl := fX0) (kc := nX0) (gs := g0) (cl := xlk [(68, true, 1, xrcv 0 (sX0_findNone)), (79, true, 2, xrcv 0 (sX0_find))]) (by decide) tX0_findAhead_ok fX0_ok nX0_ok g0_ok (xg_cons (k_X0_68 (mX0_findNone d (by omega))) (xg_cons (k_X0_79 (mX0_find d (by omega))) xg_nil)) ?_
  rintro L xs as w Qp ⟨A, F, b, N, x, rfl, rfl, ⟨h63, hN, hb⟩, h⟩
  refine ⟨Nat.le_of_ble_eq_true rfl, 400, xlk [(6, 3)], fun m pc ls st w => pc = 6 ∧ st = [] ∧ ∃ c F', c ≤ N ∧ m = N - c ∧ ls = [(0, .ref 0), (1, .int x), (2, .int (nI c))] ∧ w = AC A F' ∧ (∀ q, q ≠ 60 → q ≠ 61 → F' q = F q) ∧ F' 60 = nI (cntP (fun c => nI (b c) = x) c) ∧ F' 61 = firP (fun c => nI (b c) = x) c, ?_, ?_⟩
  · refine ⟨A, F, rfl, rfl, ?_⟩
    exact ⟨N, rfl, rfl, 0, fset (fset F 60 0) 61 (-1), Nat.zero_le _, rfl, rfl, rfl, fun q q1 q2 => (fsN q2).trans (fsN q1), rfl, rfl⟩
  · rintro m pc m9 ls st w hc ⟨rfl, rfl, c, F', hcn, rfl, rfl, rfl, hF, h60, h61⟩
    have e63 : F' 63 = nI N := (hF 63 (by omega) (by omega)).trans h63
    refine And.intro (fun g => ?_) (fun g => ?_)
    · have := ge_n e63 (by omega) (by omega) g
      have ec : c = N := by omega
      subst ec
      exact h F' h60 h61 hF
    · have hlt := nge_n e63 (by omega) (by omega) g
      refine And.intro (vp_in_nI (by omega) (by decide)) ?_
      refine And.intro (fun g2 => ?_) (fun g2 => ?_)
      · have g2 : ¬ A 1 (nI c).toNatClampNeg = x := g2
        rw [cl (by omega), (hb c hlt).1] at g2
        obtain ⟨a1, a2⟩ := fndN (p := fun c => nI (b c) = x) h60 h61 g2
        exact ⟨N - (c + 1), by omega, rfl, rfl, c + 1, F', hlt, rfl, by rw [← nI_1 c]; rfl, rfl, hF, a1, a2⟩
      · have g2 : A 1 (nI c).toNatClampNeg = x := Classical.byContradiction g2
        rw [cl (by omega), (hb c hlt).1] at g2
        obtain ⟨a1, a2⟩ := fnd (p := fun c => nI (b c) = x) (by omega) h60 h61 g2
        refine ⟨A, F', nI c, rfl, rfl, fun g3 => ?_, fun g3 => ?_⟩
        · exact ⟨N - (c + 1), by omega, rfl, rfl, c + 1, _, hlt, rfl, by rw [← nI_1 c]; rfl, rfl, fun q q1 q2 => (fsN q1).trans ((fsN q2).trans (hF q q1 q2)), a1 g3⟩
        · exact ⟨N - (c + 1), by omega, rfl, rfl, c + 1, _, hlt, rfl, by rw [← nI_1 c]; rfl, rfl, fun q q1 q2 => (fsN q1).trans (hF q q1 q2), a2 g3⟩
/-- what AllStates reads of the choir -/
def sX0_isWished : XS := fun as w post => ∃ (A : XA) (F D : Nat → Int32) (n k c : Nat), as = [.ref 16, .int (nI c)] ∧ w = AC A F ∧ DI D n k ∧ CR D (adn CP16 A) F ∧ c < 2 ^ 31 ∧ (wsd D n k c → post (some (.int 1)) (AC A F)) ∧ (¬ wsd D n k c → post (some (.int 0)) (AC A F))
set_option maxRecDepth 10000 in
set_option maxHeartbeats 1000000 in
theorem mX0_isWished (d : Nat) (hd : 0 ≤ d) : xCT d yX0_isWished cX0_isWished 4 (some .boolean) sX0_isWished := by
  refine xmet (tb := tX0_isWished) (fl := fX0) (kc := nX0) (gs := g0) (cl := xlk []) (by decide) tX0_isWished_ok fX0_ok nX0_ok g0_ok xg_nil ?_
  rintro L xs as w Qp ⟨A, F, D, n, k, c, rfl, rfl, hI, hC, hc0, hy, hno⟩
  obtain ⟨hn, hn2, hn12, hk, hk8, hSG, _⟩ := id hI
  have hF11 : F 11 = nI n := hC.1.trans hn
  have hF12 : F 12 = nI k := hC.2.1.trans hk
  have hkN : (D 2).toNatClampNeg = k := by rw [hk, cl (by omega)]
  have hW : ∀ i, i < k → A 20 i = D (8 + 8 * i + 5) := fun i hi => (hC.2.2.2.2.2.2.1 i (by rw [hkN]; exact hi)).2.2.2.2.2.1
  have hz : ¬ F 11 = 0 := by rw [hF11]; exact nI_ne0 (by omega) (by omega)
  refine ⟨Nat.le_of_ble_eq_true rfl, 400, xlk [(4, 4)], fun m pc ls st w => pc = 4 ∧ st = [] ∧ ∃ i r, i ≤ k ∧ m = k - i ∧ r = nI (c / n ^ i) ∧ ls = [(0, .ref 16), (1, .int (nI c)), (2, .int r), (3, .int (nI i))] ∧ w = AC A F ∧ ∀ t, t < i → 0 ≤ D (8 + 8 * t + 5) → D (8 + 8 * t + 5) = dg n c t, ?_, ?_⟩
  · exact ⟨k, rfl, rfl, 0, nI c, Nat.zero_le _, rfl, by rw [Nat.pow_zero, Nat.div_one], rfl, rfl, fun t ht => absurd ht (Nat.not_lt_zero _)⟩
  · rintro m pc m9 ls st w hc ⟨rfl, rfl, i, r, hi, rfl, hr, rfl, rfl, hw⟩
    have hd : c / n ^ i < 2 ^ 31 := Nat.lt_of_le_of_lt (Nat.div_le_self _ _) hc0
    refine And.intro (fun g => ?_) (fun g => ?_)
    · have := ge_n hF12 (by omega) (by omega) g
      exact ⟨rfl, hy (fun t ht => hw t (by omega))⟩
    · have hlt := nge_n hF12 (by omega) (by omega) g
      have i0 : vp_in (nI i) 8 := vp_in_nI (by omega) (by decide)
      have eW : A 20 (nI i).toNatClampNeg = D (8 + 8 * i + 5) := by rw [cl (by omega)]; exact hW i hlt
      have eR : r - r / F 11 * F 11 = dg n c i := by
        rw [hr, hF11, pk_rem hd (by omega) (by omega)]
        rfl
      have eQ : r / F 11 = nI (c / n ^ (i + 1)) := by rw [hr, hF11, pk_div hd (by omega) (by omega), Nat.div_div_eq_div_mul, Nat.pow_succ]
      refine And.intro i0 ?_
      refine And.intro (fun g2 => ?_) (fun g2 => ?_)
      · have g2 : A 20 (nI i).toNatClampNeg < 0 := g2
        rw [eW] at g2
        refine And.intro hz ?_
        refine ⟨k - (i + 1), by omega, rfl, rfl, i + 1, r / F 11, hlt, rfl, eQ, by rw [← nI_1 i]; rfl, rfl, fun t ht h0 => ?_⟩
        by_cases q : t = i
        · subst q
          exact absurd h0 (fa_of_lt g2).2.1
        · exact hw t (by omega) h0
      · have g2 : ¬ A 20 (nI i).toNatClampNeg < 0 := g2
        rw [eW] at g2
        refine And.intro i0 (And.intro hz ?_)
        refine And.intro (fun g3 => ?_) (fun g3 => ?_)
        · have g3 : A 20 (nI i).toNatClampNeg = r - r / F 11 * F 11 := g3
          rw [eW, eR] at g3
          refine And.intro hz ?_
          refine ⟨k - (i + 1), by omega, rfl, rfl, i + 1, r / F 11, hlt, rfl, eQ, by rw [← nI_1 i]; rfl, rfl, fun t ht h0 => ?_⟩
          by_cases q : t = i
          · subst q
            exact g3
          · exact hw t (by omega) h0
        · have g3 : ¬ A 20 (nI i).toNatClampNeg = r - r / F 11 * F 11 := g3
          rw [eW, eR] at g3
          exact ⟨rfl, hno (fun q => g3 (q i hlt (fa_of_nlt g2)))⟩
def sX0_findWished : XS := fun as w post => ∃ (A : XA) (F D : Nat → Int32) (n k : Nat) (b : Nat → Nat) (N m : Nat), as = [.ref 0, .ref 16, .int (nI m)] ∧ w = AC A F ∧ DI D n k ∧ CR D (adn CP16 A) F ∧ BH A F b N ∧ m < 2 ^ 31 ∧ ∀ F', F' 60 = nI (cntP (fun c => wsd D n k (itN b m c)) N) → F' 61 = firP (fun c => wsd D n k (itN b m c)) N → (∀ q, q ≠ 60 → q ≠ 61 → F' q = F q) → post none (AC A F')
set_option maxRecDepth 10000 in
set_option maxHeartbeats 1000000 in
theorem mX0_findWished (d : Nat) (hd : 1 ≤ d) : xCT d yX0_findWished cX0_findWished 4 none sX0_findWished := by
  obtain ⟨d, rfl⟩ : ∃ e, d = e + 1 := ⟨d - 1, by omega⟩
  refine xmet (tb := tX0_findWished) (fl := fX0) (kc := nX0) (gs := g0) (cl := xlk [(68, true, 1, xrcv 0 (sX0_findNone)), (71, true, 3, xrcv 0 (sX0_after)), (75, false, 2, sX0_isWished), (79, true, 2, xrcv 0 (sX0_find))]) (by decide) tX0_findWished_ok fX0_ok nX0_ok g0_ok (xg_cons (k_X0_68 (mX0_findNone d (by omega))) (xg_cons (k_X0_71 (mX0_after d (by omega))) (xg_cons (k_X0_75 (mX0_isWished d (by omega))) (xg_cons (k_X0_79 (mX0_find d (by omega))) xg_nil)))) ?_
  rintro L xs as w Qp ⟨A, F, D, n, k, b, N, m1, rfl, rfl, hI, hC, ⟨h63, hN, hb⟩, hm1, h⟩
  refine ⟨Nat.le_of_ble_eq_true rfl, 400, xlk [(6, 4)], fun m pc ls st w => pc = 6 ∧ st = [] ∧ ∃ c F', c ≤ N ∧ m = N - c ∧ ls = [(0, .ref 0), (1, .ref 16), (2, .int (nI m1)), (3, .int (nI c))] ∧ w = AC A F' ∧ (∀ q, q ≠ 60 → q ≠ 61 → F' q = F q) ∧ F' 60 = nI (cntP (fun c => wsd D n k (itN b m1 c)) c) ∧ F' 61 = firP (fun c => wsd D n k (itN b m1 c)) c, ?_, ?_⟩
  · refine ⟨A, F, rfl, rfl, ?_⟩
    exact ⟨N, rfl, rfl, 0, fset (fset F 60 0) 61 (-1), Nat.zero_le _, rfl, rfl, rfl, fun q q1 q2 => (fsN q2).trans (fsN q1), rfl, rfl⟩
  · rintro m pc m9 ls st w hc ⟨rfl, rfl, c, F', hcn, rfl, rfl, rfl, hF, h60, h61⟩
    have e63 : F' 63 = nI N := (hF 63 (by omega) (by omega)).trans h63
    have hC' : CR D (adn CP16 A) F' := by
      unfold CR at hC ⊢
      rw [hF 11 (by omega) (by omega), hF 12 (by omega) (by omega), hF 13 (by omega) (by omega), hF 14 (by omega) (by omega), hF 15 (by omega) (by omega), hF 16 (by omega) (by omega), hF 20 (by omega) (by omega), hF 21 (by omega) (by omega)]
      exact hC
    refine And.intro (fun g => ?_) (fun g => ?_)
    · have := ge_n e63 (by omega) (by omega) g
      have ec : c = N := by omega
      subst ec
      exact h F' h60 h61 hF
    · have hlt := nge_n e63 (by omega) (by omega) g
      have hit : itN b m1 c < N := itN_lt (fun c hc => (hb c hc).2) c hlt m1
      refine ⟨A, F', b, N, c, m1, rfl, rfl, ⟨e63, hN, hb⟩, hlt, hm1, fun v hv => ?_⟩
      subst hv
      refine ⟨A, F', D, n, k, itN b m1 c, rfl, rfl, hI, hC', by omega, fun g2 => ?_, fun g2 => ?_⟩
      · refine br_f xc_eq1 ?_
        obtain ⟨a1, a2⟩ := fnd (p := fun c => wsd D n k (itN b m1 c)) (by omega) h60 h61 g2
        refine ⟨A, F', nI c, rfl, rfl, fun g3 => ?_, fun g3 => ?_⟩
        · exact ⟨N - (c + 1), by omega, rfl, rfl, c + 1, _, hlt, rfl, by rw [← nI_1 c]; rfl, rfl, fun q q1 q2 => (fsN q1).trans ((fsN q2).trans (hF q q1 q2)), a1 g3⟩
        · exact ⟨N - (c + 1), by omega, rfl, rfl, c + 1, _, hlt, rfl, by rw [← nI_1 c]; rfl, rfl, fun q q1 q2 => (fsN q1).trans (hF q q1 q2), a2 g3⟩
      · refine br_t xc_eq0 ?_
        obtain ⟨a1, a2⟩ := fndN (p := fun c => wsd D n k (itN b m1 c)) h60 h61 g2
        exact ⟨N - (c + 1), by omega, rfl, rfl, c + 1, F', hlt, rfl, by rw [← nI_1 c]; rfl, rfl, hF, a1, a2⟩
