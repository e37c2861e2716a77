/-! ===== the class: all states: the worthiest ===== -/
theorem wrV_D {D : Nat → Int32} (hT : TXO D 1) (a b : Int32) : clampV (cif (tps D 1 = []) a (VV (nms a b 0 0) (tps D 1))) = worthV D a b := by
  unfold worthV tps
  by_cases q : D 73 = 0
  · rw [cif_t (P := D (72 + 1) = 0) q, cif_t rfl, cif_t q]
  · rw [cif_f (P := D (72 + 1) = 0) q, cif_f q]
    have hne := tps_ne hT q
    rw [cif_f hne]
theorem ckC_AC : cq ACD CHD CP16 CF = true := by decide +kernel
def sX1_worthOf_AC : XS := fun as w post => ∃ (A : XA) (F D : Nat → Int32) (a b : Int32), as = [.ref 16, .int a, .int b] ∧ w = AC A F ∧ CR D (adn CP16 A) F ∧ TXO D 1 ∧ ∀ A' v, sm [32, 33] A' A → v = worthV D a b → post (some (.int v)) (AC A' F)
set_option maxRecDepth 10000 in
set_option maxHeartbeats 1000000 in
theorem mX1_worthOf_AC (d : Nat) (hd : 2 ≤ d) : xCT d yX1_worthOf cX1_worthOf 4 (some .int) sX1_worthOf_AC := by
  refine xCT_in (mX1_worthOf d hd) ?_
  rintro as w post ⟨A, F, D, a, b, rfl, rfl, hC, hT, h⟩
  refine ⟨CP16, [.ref 0, .int a, .int b], CH (adn CP16 A) (fdn CF F), rfl, cq_dn ckC_AC A F, rfl, adn CP16 A, fdn CF F, tps D 1, a, b, rfl, rfl, hC.2.2.2.2.2.2.2.2.2.2, fun A2 hA2 => ?_⟩
  refine cq_a (A := A) (F := F) (A' := A2) ckC_AC fckCF ?_
  exact h (apu CP16 A2 A) _ (sm_up (ps := CP16) (l := [16, 17]) (fun p hp => hA2 p (fun q => by rw [q] at hp; cases hp) (fun q => by rw [q] at hp; cases hp))) (wrV_D hT a b)
theorem acset5 {A : XA} {F u u' : Nat → Int32} (h : u = u') : List.set (AC A F) 5 (.inl (0, 96, .inl u)) = AC (aset A 5 u') F := by
  subst h
  rfl
def sX0_weighNotes : XS := fun as w post => ∃ (A : XA) (F D : Nat → Int32) (n k : Nat), as = [.ref 0, .ref 16] ∧ w = AC A F ∧ DI D n k ∧ TXO D 1 ∧ CR D (adn CP16 A) F ∧ ∀ A', sm [5, 32, 33] A' A → (∀ i v, i < k → v < n → A' 5 (12 * i + v) = worthV D (nI v) (nI i)) → post none (AC A' F)
set_option maxRecDepth 10000 in
set_option maxHeartbeats 1000000 in
theorem mX0_weighNotes (d : Nat) (hd : 3 ≤ d) : xCT d yX0_weighNotes cX0_weighNotes 4 none sX0_weighNotes := by
  obtain ⟨d, rfl⟩ : ∃ e, d = e + 1 := ⟨d - 1, by omega⟩
  refine xmet (tb := tX0_weighNotes) (fl := fX0) (kc := nX0) (gs := g0) (cl := xlk [(93, true, 3, xrcv 1 (sX1_worthOf_AC))]) (by decide) tX0_weighNotes_ok fX0_ok nX0_ok g0_ok (xg_cons (k_X0_93 (mX1_worthOf_AC d (by omega))) xg_nil) ?_
  rintro L xs as w Qp ⟨A, F, D, n, k, rfl, rfl, hI, hT, hC, h⟩
  obtain ⟨hn, hn2, hn12, hk, hk8, hSG, _⟩ := id hI
  have hF11 : F 11 = nI n := hC.1.trans hn
  have hF12 : F 12 = nI k := hC.2.1.trans hk
  refine ⟨Nat.le_of_ble_eq_true rfl, 400, xlk [(2, 3), (12, 4)], fun m pc ls st w => st = [] ∧ ∃ i A', w = AC A' F ∧ sm [5, 32, 33] A' A ∧ (∀ j v, j < i → v < n → A' 5 (12 * j + v) = worthV D (nI v) (nI j)) ∧ ((pc = 2 ∧ i ≤ k ∧ m = 100 * (k - i) ∧ ls = [(0, .ref 0), (1, .ref 16), (2, .int (nI i))]) ∨ (pc = 12 ∧ i < k ∧ ∃ v, v ≤ n ∧ m = 100 * (k - i) - 1 - v ∧ ls = [(0, .ref 0), (1, .ref 16), (2, .int (nI i)), (3, .int (nI v))] ∧ (∀ u, u < v → A' 5 (12 * i + u) = worthV D (nI u) (nI i)))), ?_, ?_⟩
  · exact ⟨100 * (k - 0), rfl, 0, A, rfl, sm_rf, fun j v hj => absurd hj (Nat.not_lt_zero _), Or.inl ⟨rfl, Nat.zero_le _, rfl, rfl⟩⟩
  · rintro m pc m9 ls st w hc ⟨rfl, i, A', rfl, hS, hW, ⟨rfl, hi, rfl, rfl⟩ | ⟨rfl, hi, v, hv, rfl, rfl, hV⟩⟩
    · refine And.intro (fun g => ?_) (fun g => ?_)
      · have := ge_n hF12 (by omega) (by omega) g
        exact h A' hS (fun j v hj hv => hW j v (by omega) hv)
      · have hlt := nge_n hF12 (by omega) (by omega) g
        exact ⟨100 * (k - i) - 1 - 0, by omega, rfl, i, A', rfl, hS, hW, Or.inr ⟨rfl, hlt, 0, Nat.zero_le _, rfl, rfl, fun u hu => absurd hu (Nat.not_lt_zero _)⟩⟩
    · refine And.intro (fun g => ?_) (fun g => ?_)
      · have := ge_n hF11 (by omega) (by omega) g
        refine ⟨100 * (k - (i + 1)), by omega, rfl, i + 1, A', rfl, hS, fun j u hj hu => ?_, Or.inl ⟨rfl, hi, rfl, by rw [← nI_1 i]; rfl⟩⟩
        by_cases q : j = i
        · subst q
          exact hV u (by omega)
        · exact hW j u (by omega) hu
      · have hlt := nge_n hF11 (by omega) (by omega) g
        have hC' : CR D (adn CP16 A') F := CRsm (CP := CP16) (l := [5, 32, 33]) hC hS (by decide)
        refine ⟨A', F, D, nI v, nI i, rfl, rfl, hC', hT, fun A2 x hS2 hx => ?_⟩
        have eat : nI i * 12 + nI v = nI (12 * i + v) := by rw [show (12 : Int32) = nI 12 from rfl, pk_mul, nI_add, Nat.mul_comm]
        refine And.intro (by show vp_in (nI i * 12 + nI v) 96; rw [eat]; exact vp_in_nI (by omega) (by decide)) ?_
        have eu : upd (A2 5) (nI i * 12 + nI v).toNatClampNeg x = upd (A' 5) (12 * i + v) (worthV D (nI v) (nI i)) := by rw [eat, cl (by omega), hx, hS2 5 rfl]
        refine ⟨100 * (k - i) - 1 - (v + 1), by omega, rfl, i, aset A2 5 (upd (A' 5) (12 * i + v) (worthV D (nI v) (nI i))), acset5 eu, sm_tr hS (sm_tr (sm_w hS2 rfl) (sm_aset rfl)), fun j u hj hu => ?_, Or.inr ⟨rfl, hi, v + 1, hlt, rfl, by rw [← nI_1 v]; rfl, fun u hu => ?_⟩⟩
        · show upd (A' 5) (12 * i + v) (worthV D (nI v) (nI i)) (12 * j + u) = _
          rw [pk_un (by omega)]
          exact hW j u hj hu
        · show upd (A' 5) (12 * i + v) (worthV D (nI v) (nI i)) (12 * i + u) = _
          by_cases q : u = v
          · rw [q, pk_us]
          · rw [pk_un (by omega)]
            exact hV u (by omega)
def sX0_worthOfState : XS := fun as w post => ∃ (A : XA) (F D : Nat → Int32) (n k c : Nat), as = [.ref 0, .ref 16, .int (nI c)] ∧ w = AC A F ∧ DI D n k ∧ F 11 = nI n ∧ F 12 = nI k ∧ c < 2 ^ 31 ∧ (∀ i v, i < k → v < n → A 5 (12 * i + v) = worthV D (nI v) (nI i)) ∧ ∀ v, v = wsum D (dg n c) k → post (some (.int v)) (AC A F)
set_option maxRecDepth 10000 in
set_option maxHeartbeats 1000000 in
theorem mX0_worthOfState (d : Nat) (hd : 0 ≤ d) : xCT d yX0_worthOfState cX0_worthOfState 6 (some .int) sX0_worthOfState := by
  refine xmet (tb := tX0_worthOfState) (fl := fX0) (kc := nX0) (gs := g0) (cl := xlk []) (by decide) tX0_worthOfState_ok fX0_ok nX0_ok g0_ok xg_nil ?_
  rintro L xs as w Qp ⟨A, F, D, n, k, c, rfl, rfl, hI, hF11, hF12, hc0, hW, h⟩
  obtain ⟨hn, hn2, hn12, hk, hk8, hSG, _⟩ := id hI
  have hz : ¬ F 11 = 0 := by rw [hF11]; exact nI_ne0 (by omega) (by omega)
  refine ⟨Nat.le_of_ble_eq_true rfl, 400, xlk [(8, 6)], fun m pc ls st w => pc = 8 ∧ st = [] ∧ ∃ i r x, i ≤ k ∧ m = k - i ∧ r = nI (c / n ^ i) ∧ x = wsum D (dg n c) i ∧ ls = [(0, .ref 0), (1, .ref 16), (2, .int (nI c)), (3, .int r), (4, .int x), (5, .int (nI i))] ∧ w = AC A F, ?_, ?_⟩
  · exact ⟨k, rfl, rfl, 0, nI c, 0, Nat.zero_le _, rfl, by rw [Nat.pow_zero, Nat.div_one], rfl, rfl, rfl⟩
  · rintro m pc m9 ls st w hc ⟨rfl, rfl, i, r, x, hi, rfl, hr, hx, rfl, rfl⟩
    have hd : c / n ^ i < 2 ^ 31 := Nat.lt_of_le_of_lt (Nat.div_le_self _ _) hc0
    refine And.intro (fun g => ?_) (fun g => ?_)
    · have := ge_n hF12 (by omega) (by omega) g
      exact h x (by rw [hx, show i = k by omega])
    · have hlt := nge_n hF12 (by omega) (by omega) g
      have hdg : c / n ^ i % n < n := Nat.mod_lt _ (by omega)
      have eR : r - r / F 11 * F 11 = nI (c / n ^ i % n) := by rw [hr, hF11, pk_rem hd (by omega) (by omega)]
      have eQ : r / F 11 = nI (c / n ^ (i + 1)) := by rw [hr, hF11, pk_div hd (by omega) (by omega), Nat.div_div_eq_div_mul, Nat.pow_succ]
      have eat : nI i * 12 + (r - r / F 11 * F 11) = nI (12 * i + c / n ^ i % n) := by rw [eR, show (12 : Int32) = nI 12 from rfl, pk_mul, nI_add, Nat.mul_comm]
      refine And.intro hz (And.intro (by show vp_in (nI i * 12 + (r - r / F 11 * F 11)) 96; rw [eat]; exact vp_in_nI (by omega) (by decide)) (And.intro hz ?_))
      refine ⟨k - (i + 1), by omega, rfl, rfl, i + 1, r / F 11, x + A 5 (nI i * 12 + (r - r / F 11 * F 11)).toNatClampNeg, hlt, rfl, eQ, ?_, by rw [← nI_1 i]; rfl, rfl⟩
      rw [eat, cl (by omega), hW i _ hlt hdg, hx]
      rfl
def sX0_worthiest : XS := fun as w post => ∃ (A : XA) (F D : Nat → Int32) (n k : Nat) (b : Nat → Nat) (N m : Nat), as = [.ref 0, .ref 16, .int (nI m)] ∧ w = AC A F ∧ DI D n k ∧ TXO D 1 ∧ CR D (adn CP16 A) F ∧ BH A F b N ∧ 0 < N ∧ m < 2 ^ 31 ∧ ∀ A', sm [5, 32, 33] A' A → post (some (.int (bst (fun c => wsum D (dg n (itN b m c)) k) N).1)) (AC A' F)
theorem bst_0 {f : Nat → Int32} : ∀ {c : Nat}, 0 < c → c < 2 ^ 31 → 0 ≤ (bst f c).1
  | 0, h, _ => absurd h (Nat.lt_irrefl _)
  | c + 1, _, hc => by
    show 0 ≤ (cif ((bst f c).1 < 0 ∨ (bst f c).2 < f c) (nI c, f c) (bst f c)).1
    by_cases g : (bst f c).1 < 0 ∨ (bst f c).2 < f c
    · rw [cif_t g]
      exact nI_pos' (by omega)
    · rw [cif_f g]
      exact fa_of_nlt (fun q => g (Or.inl q))
set_option maxRecDepth 10000 in
set_option maxHeartbeats 1000000 in
theorem mX0_worthiest (d : Nat) (hd : 4 ≤ d) : xCT d yX0_worthiest cX0_worthiest 7 (some .int) sX0_worthiest := by
  obtain ⟨d, rfl⟩ : ∃ e, d = e + 1 := ⟨d - 1, by omega⟩
  refine xmet (tb := tX0_worthiest) (fl := fX0) (kc := nX0) (gs := g0) (cl := xlk [(86, true, 2, xrcv 0 (sX0_weighNotes)), (71, true, 3, xrcv 0 (sX0_after)), (89, true, 3, xrcv 0 (sX0_worthOfState))]) (by decide) tX0_worthiest_ok fX0_ok nX0_ok g0_ok (xg_cons (k_X0_86 (mX0_weighNotes d (by omega))) (xg_cons (k_X0_71 (mX0_after d (by omega))) (xg_cons (k_X0_89 (mX0_worthOfState d (by omega))) xg_nil))) ?_
  rintro L xs as w Qp ⟨A, F, D, n, k, b, N, m1, rfl, rfl, hI, hT, hC, ⟨h63, hN, hb⟩, hN0, hm1, h⟩
  obtain ⟨hn, hn2, hn12, hk, hk8, hSG, _⟩ := id hI
  have hF11 : F 11 = nI n := hC.1.trans hn
  have hF12 : F 12 = nI k := hC.2.1.trans hk
  generalize hf : (fun c => wsum D (dg n (itN b m1 c)) k) = f at h
  refine ⟨Nat.le_of_ble_eq_true rfl, 400, xlk [(13, 6)], fun m pc ls st w => pc = 13 ∧ st = [] ∧ ∃ c x y A', c ≤ N ∧ m = N - c ∧ ((c = 0 ∧ x = 0 ∧ y = 0) ∨ (0 < c ∧ x = (bst f c).1 ∧ y = (bst f c).2)) ∧ ls = [(0, .ref 0), (1, .ref 16), (2, .int (nI m1)), (3, .int x), (4, .int y), (5, .int (nI c))] ∧ w = AC A' F ∧ sm [5, 32, 33] A' A ∧ (∀ i v, i < k → v < n → A' 5 (12 * i + v) = worthV D (nI v) (nI i)), ?_, ?_⟩
  · refine ⟨A, F, D, n, k, rfl, rfl, hI, hT, hC, fun A2 hS2 hW => ?_⟩
    exact ⟨N, rfl, rfl, 0, 0, 0, A2, Nat.zero_le _, rfl, Or.inl ⟨rfl, rfl, rfl⟩, rfl, rfl, hS2, hW⟩
  · rintro m pc m9 ls st w hc ⟨rfl, rfl, c, x, y, A', hcn, rfl, hxy, rfl, rfl, hS, hW⟩
    refine And.intro (fun g => ?_) (fun g => ?_)
    · have := ge_n h63 (by omega) (by omega) g
      have ec : c = N := by omega
      subst ec
      rcases hxy with ⟨q, _⟩ | ⟨_, q, _⟩
      · omega
      · have h9 := h A' hS
        rw [← q] at h9
        exact h9
    · have hlt := nge_n h63 (by omega) (by omega) g
      have hit : itN b m1 c < N := itN_lt (fun c hc => (hb c hc).2) c hlt m1
      have hB : BH A' F b N := ⟨h63, hN, fun c hc => by rw [hS 1 rfl]; exact hb c hc⟩
      refine ⟨A', F, b, N, c, m1, rfl, rfl, hB, hlt, hm1, fun v hv => ?_⟩
      subst hv
      refine ⟨A', F, D, n, k, itN b m1 c, rfl, rfl, hI, hF11, hF12, by omega, hW, fun v hv => ?_⟩
      have hv : v = f c := by rw [hv, ← hf]
      have eb : bst f (c + 1) = cif ((bst f c).1 < 0 ∨ (bst f c).2 < f c) (nI c, f c) (bst f c) := rfl
      have new : ((bst f c).1 < 0 ∨ (bst f c).2 < f c) → ∃ n', n' < N - c ∧ 13 = 13 ∧ ([] : List Value) = [] ∧ ∃ c' x' y' A'', c' ≤ N ∧ n' = N - c' ∧ ((c' = 0 ∧ x' = 0 ∧ y' = 0) ∨ (0 < c' ∧ x' = (bst f c').1 ∧ y' = (bst f c').2)) ∧ [(0, Value.ref 0), (1, .ref 16), (2, .int (nI m1)), (3, .int (nI c)), (4, .int v), (5, .int (nI c + 1))] = [(0, .ref 0), (1, .ref 16), (2, .int (nI m1)), (3, .int x'), (4, .int y'), (5, .int (nI c'))] ∧ AC A' F = AC A'' F ∧ sm [5, 32, 33] A'' A ∧ (∀ i v, i < k → v < n → A'' 5 (12 * i + v) = worthV D (nI v) (nI i)) := fun q =>
        ⟨N - (c + 1), by omega, rfl, rfl, c + 1, nI c, v, A', hlt, rfl, Or.inr ⟨by omega, by rw [eb, cif_t q], by rw [eb, cif_t q]; exact hv⟩, by rw [← nI_1 c], rfl, hS, hW⟩
      refine And.intro (fun g2 => ?_) (fun g2 => ?_)
      · have g2 : nI c = 0 := g2
        have ec : c = 0 := nI_inj (b := 0) (by omega) (by omega) g2
        exact new (Or.inl (by rw [ec]; exact (by decide : (-1 : Int32) < 0)))
      · have g2 : ¬ nI c = 0 := g2
        have hc0 : 0 < c := by
          rcases Nat.eq_zero_or_pos c with q | q
          · exact absurd (by rw [q]; rfl) g2
          · exact q
        rcases hxy with ⟨q, _⟩ | ⟨_, ex, ey⟩
        · omega
        · have h0 := bst_0 (f := f) hc0 (by omega)
          refine And.intro (fun g3 => ?_) (fun g3 => ?_)
          · have g3 : v ≤ y := g3
            rw [hv, ey] at g3
            have hn : ¬ ((bst f c).1 < 0 ∨ (bst f c).2 < f c) := fun q => q.elim (fun q => (fa_of_lt q).2.1 h0) (fun q => (fa_of_lt q).2.1 g3)
            exact ⟨N - (c + 1), by omega, rfl, rfl, c + 1, x, y, A', hlt, rfl, Or.inr ⟨by omega, by rw [eb, cif_f hn]; exact ex, by rw [eb, cif_f hn]; exact ey⟩, by rw [← nI_1 c]; rfl, rfl, hS, hW⟩
          · have g3 : ¬ v ≤ y := g3
            rw [hv, ey] at g3
            exact new (Or.inr (fa_of_nle g3))
