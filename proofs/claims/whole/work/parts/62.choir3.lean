/-! ===== the class: a choir is copied ===== -/
def CC (A : XA) (F : Nat → Int32) : XW := [.inr (1, [.ref 1, .ref 2, .ref 3, .ref 4, .ref 5, .ref 6, .ref 7, .ref 8, .ref 9, .ref 10, .ref 14, .int (F 11), .int (F 12), .int (F 13), .int (F 14), .int (F 15), .int (F 16)]), .inl (0, 8, .inl (A 1)), .inl (0, 8, .inl (A 2)), .inl (0, 8, .inl (A 3)), .inl (0, 8, .inl (A 4)), .inl (0, 8, .inl (A 5)), .inl (0, 8, .inl (A 6)), .inl (0, 8, .inl (A 7)), .inl (1, 50, .inl (A 8)), .inl (0, 20, .inl (A 9)), .inr (2, [.ref 11, .ref 12, .ref 13, .int (F 20)]), .inl (0, 50, .inl (A 11)), .inl (0, 50, .inl (A 12)), .inl (0, 4, .inl (A 13)), .inr (2, [.ref 15, .ref 16, .ref 17, .int (F 21)]), .inl (0, 50, .inl (A 15)), .inl (0, 50, .inl (A 16)), .inl (0, 4, .inl (A 17)), .inr (1, [.ref 19, .ref 20, .ref 21, .ref 22, .ref 23, .ref 24, .ref 25, .ref 26, .ref 27, .ref 28, .ref 32, .int (F 31), .int (F 32), .int (F 33), .int (F 34), .int (F 35), .int (F 36)]), .inl (0, 8, .inl (A 19)), .inl (0, 8, .inl (A 20)), .inl (0, 8, .inl (A 21)), .inl (0, 8, .inl (A 22)), .inl (0, 8, .inl (A 23)), .inl (0, 8, .inl (A 24)), .inl (0, 8, .inl (A 25)), .inl (1, 50, .inl (A 26)), .inl (0, 20, .inl (A 27)), .inr (2, [.ref 29, .ref 30, .ref 31, .int (F 40)]), .inl (0, 50, .inl (A 29)), .inl (0, 50, .inl (A 30)), .inl (0, 4, .inl (A 31)), .inr (2, [.ref 33, .ref 34, .ref 35, .int (F 41)]), .inl (0, 50, .inl (A 33)), .inl (0, 50, .inl (A 34)), .inl (0, 4, .inl (A 35))]
def CCD : List DC := [.inr (.inr (1, [(0, 1), (0, 2), (0, 3), (0, 4), (0, 5), (0, 6), (0, 7), (0, 8), (0, 9), (0, 10), (0, 14), (1, 11), (1, 12), (1, 13), (1, 14), (1, 15), (1, 16)])), .inl (0, 8), .inl (0, 8), .inl (0, 8), .inl (0, 8), .inl (0, 8), .inl (0, 8), .inl (0, 8), .inl (1, 50), .inl (0, 20), .inr (.inr (2, [(0, 11), (0, 12), (0, 13), (1, 20)])), .inl (0, 50), .inl (0, 50), .inl (0, 4), .inr (.inr (2, [(0, 15), (0, 16), (0, 17), (1, 21)])), .inl (0, 50), .inl (0, 50), .inl (0, 4), .inr (.inr (1, [(0, 19), (0, 20), (0, 21), (0, 22), (0, 23), (0, 24), (0, 25), (0, 26), (0, 27), (0, 28), (0, 32), (1, 31), (1, 32), (1, 33), (1, 34), (1, 35), (1, 36)])), .inl (0, 8), .inl (0, 8), .inl (0, 8), .inl (0, 8), .inl (0, 8), .inl (0, 8), .inl (0, 8), .inl (1, 50), .inl (0, 20), .inr (.inr (2, [(0, 29), (0, 30), (0, 31), (1, 40)])), .inl (0, 50), .inl (0, 50), .inl (0, 4), .inr (.inr (2, [(0, 33), (0, 34), (0, 35), (1, 41)])), .inl (0, 50), .inl (0, 50), .inl (0, 4)]
theorem CC_dn (A : XA) (F : Nat → Int32) : CC A F = dn A F 0 CCD := rfl
def LL (A : XA) (F : Nat → Int32) : XW := [.inr (2, [.ref 1, .ref 2, .ref 3, .int (F 90)]), .inl (0, 50, .inl (A 1)), .inl (0, 50, .inl (A 2)), .inl (0, 4, .inl (A 3)), .inr (2, [.ref 5, .ref 6, .ref 7, .int (F 91)]), .inl (0, 50, .inl (A 5)), .inl (0, 50, .inl (A 6)), .inl (0, 4, .inl (A 7))]
def LLD : List DC := [.inr (.inr (2, [(0, 1), (0, 2), (0, 3), (1, 90)])), .inl (0, 50), .inl (0, 50), .inl (0, 4), .inr (.inr (2, [(0, 5), (0, 6), (0, 7), (1, 91)])), .inl (0, 50), .inl (0, 50), .inl (0, 4)]
theorem LL_dn (A : XA) (F : Nat → Int32) : LL A F = dn A F 0 LLD := rfl
def LA : List Nat := [10, 11, 12, 13, 28, 29, 30, 31]
def LB : List Nat := [14, 15, 16, 17, 32, 33, 34, 35]
theorem ckLA : cq CCD LLD LA [(90, 20), (91, 40)] = true := by decide +kernel
theorem ckLB : cq CCD LLD LB [(90, 21), (91, 41)] = true := by decide +kernel
def sX2_copyFrom_LA : XS := fun as w post => ∃ (A : XA) (F : Nat → Int32), as = [.ref 10, .ref 28] ∧ w = CC A F ∧ ∀ A', A' = aset A 11 (cpU (A 29) (A 11) 50) → post none (CC A' (fset F 20 (F 40)))
set_option maxRecDepth 10000 in
set_option maxHeartbeats 1000000 in
theorem mX2_copyFrom_LA (d : Nat) (hd : 1 ≤ d) : xCT d yX2_copyFrom cX2_copyFrom 2 none sX2_copyFrom_LA := by
  refine xCT_in (mX2_copyFrom d hd) ?_
  rintro as w post ⟨A, F, rfl, rfl, h⟩
  refine ⟨LA, [.ref 0, .ref 4], LL (adn LA A) (fdn [(90, 20), (91, 40)] F), rfl, cq_dn ckLA A F, rfl, A 11, A 12, A 13, A 29, A 30, A 31, F 20, F 40, rfl, rfl, ?_⟩
  refine cq_go (A := A) (F := F) (A' := aset (adn LA A) 1 (cpU (A 29) (A 11) 50)) (F' := fset (fdn [(90, 20), (91, 40)] F) 90 (F 40)) (Dc := LLD) ckLA ?_
  have e1 : apu LA (aset (adn LA A) 1 (cpU (A 29) (A 11) 50)) A = aset A 11 (cpU (A 29) (A 11) 50) := by
    funext p
    by_cases q : p = 11
    · subst q
      rfl
    · rw [asN q]
      unfold apu
      cases hk : plk LA p with
      | none => rfl
      | some j =>
        have hj := plk_some hk
        have hj1 : j ≠ 1 := by
          intro e
          subst e
          exact q (Option.some.inj hj).symm
        show aset (adn LA A) 1 _ j = A p
        rw [asN hj1]
        show A (LA.getD j 0) = A p
        rw [List.getD_eq_getElem?_getD, hj]
        rfl
  have e2 : fpu [(90, 20), (91, 40)] (fset (fdn [(90, 20), (91, 40)] F) 90 (F 40)) F = fset F 20 (F 40) := by
    funext q
    by_cases g : q = 20
    · subst g
      rfl
    · rw [fsN g]
      by_cases g2 : q = 40
      · subst g2
        rfl
      · unfold fpu
        have b1 : Nat.beq 20 q = false := by
          cases hb : Nat.beq 20 q with
          | false => rfl
          | true => exact absurd (Nat.eq_of_beq_eq_true hb).symm g
        have b2 : Nat.beq 40 q = false := by
          cases hb : Nat.beq 40 q with
          | false => rfl
          | true => exact absurd (Nat.eq_of_beq_eq_true hb).symm g2
        have e3 : rlk [(90, 20), (91, 40)] q = none := by
          unfold rlk
          rw [b1]
          unfold rlk
          rw [b2]
          rfl
        rw [e3]
  rw [e1, e2]
  exact h _ rfl
def sX2_copyFrom_LB : XS := fun as w post => ∃ (A : XA) (F : Nat → Int32), as = [.ref 14, .ref 32] ∧ w = CC A F ∧ ∀ A', A' = aset A 15 (cpU (A 33) (A 15) 50) → post none (CC A' (fset F 21 (F 41)))
set_option maxRecDepth 10000 in
set_option maxHeartbeats 1000000 in
theorem mX2_copyFrom_LB (d : Nat) (hd : 1 ≤ d) : xCT d yX2_copyFrom cX2_copyFrom 2 none sX2_copyFrom_LB := by
  refine xCT_in (mX2_copyFrom d hd) ?_
  rintro as w post ⟨A, F, rfl, rfl, h⟩
  refine ⟨LB, [.ref 0, .ref 4], LL (adn LB A) (fdn [(90, 21), (91, 41)] F), rfl, cq_dn ckLB A F, rfl, A 15, A 16, A 17, A 33, A 34, A 35, F 21, F 41, rfl, rfl, ?_⟩
  refine cq_go (A := A) (F := F) (A' := aset (adn LB A) 1 (cpU (A 33) (A 15) 50)) (F' := fset (fdn [(90, 21), (91, 41)] F) 90 (F 41)) (Dc := LLD) ckLB ?_
  have e1 : apu LB (aset (adn LB A) 1 (cpU (A 33) (A 15) 50)) A = aset A 15 (cpU (A 33) (A 15) 50) := by
    funext p
    by_cases q : p = 15
    · subst q
      rfl
    · rw [asN q]
      unfold apu
      cases hk : plk LB p with
      | none => rfl
      | some j =>
        have hj := plk_some hk
        have hj1 : j ≠ 1 := by
          intro e
          subst e
          exact q (Option.some.inj hj).symm
        show aset (adn LB A) 1 _ j = A p
        rw [asN hj1]
        show A (LB.getD j 0) = A p
        rw [List.getD_eq_getElem?_getD, hj]
        rfl
  have e2 : fpu [(90, 21), (91, 41)] (fset (fdn [(90, 21), (91, 41)] F) 90 (F 41)) F = fset F 21 (F 41) := by
    funext q
    by_cases g : q = 21
    · subst g
      rfl
    · rw [fsN g]
      by_cases g2 : q = 41
      · subst g2
        rfl
      · unfold fpu
        have b1 : Nat.beq 21 q = false := by
          cases hb : Nat.beq 21 q with
          | false => rfl
          | true => exact absurd (Nat.eq_of_beq_eq_true hb).symm g
        have b2 : Nat.beq 41 q = false := by
          cases hb : Nat.beq 41 q with
          | false => rfl
          | true => exact absurd (Nat.eq_of_beq_eq_true hb).symm g2
        have e3 : rlk [(90, 21), (91, 41)] q = none := by
          unfold rlk
          rw [b1]
          unfold rlk
          rw [b2]
          rfl
        rw [e3]
  rw [e1, e2]
  exact h _ rfl
def sX1_copyFrom : XS := fun as w post => ∃ (A : XA) (F : Nat → Int32), as = [.ref 0, .ref 18] ∧ w = CC A F ∧ sb_Fit (A 26) ∧ ∀ A' F', sm [1, 2, 3, 4, 5, 6, 7, 8, 9, 11, 15] A' A → (∀ j, 1 ≤ j → j ≤ 7 → ∀ i, i < 8 → A' j i = A (18 + j) i) → A' 8 = cpU (A 26) (A 8) 50 → A' 9 = cpU (A 27) (A 9) 20 → A' 11 = cpU (A 29) (A 11) 50 → A' 15 = cpU (A 33) (A 15) 50 → (∀ q, q ≠ 11 → q ≠ 12 → q ≠ 13 → q ≠ 14 → q ≠ 15 → q ≠ 16 → q ≠ 20 → q ≠ 21 → F' q = F q) → F' 11 = F 31 → F' 12 = F 32 → F' 13 = F 33 → F' 14 = F 34 → F' 15 = F 35 → F' 16 = F 36 → F' 20 = F 40 → F' 21 = F 41 → post none (CC A' F')
set_option maxRecDepth 10000 in
set_option maxHeartbeats 1000000 in
theorem mX1_copyFrom (d : Nat) (hd : 2 ≤ d) : xCT d yX1_copyFrom cX1_copyFrom 2 none sX1_copyFrom := by
  obtain ⟨d, rfl⟩ : ∃ e, d = e + 1 := ⟨d - 1, by omega⟩
  refine xmet (tb := tX1_copyFrom) (fl := fX1) (kc := nX1) (gs := g0) (cl := xlk [(104, true, 2, xrcv 2 (xor2 (sX2_copyFrom_LA) (sX2_copyFrom_LB))), (98, false, 5, xCpy)]) (by decide) tX1_copyFrom_ok fX1_ok nX1_ok g0_ok (xg_cons (k_X1_104 (xCT_or (mX2_copyFrom_LA d (by omega)) (mX2_copyFrom_LB d (by omega)))) (xg_cons (k_X1_98_copy (xrm_ok d)) xg_nil)) ?_
  rintro L xs as w Qp ⟨A, F, rfl, rfl, hB, h⟩
  let A1 : XA := aset (aset (aset (aset (aset (aset (aset (aset (aset A 1 (cpU (A 19) (A 1) 8)) 2 (cpU (A 20) (A 2) 8)) 3 (cpU (A 21) (A 3) 8)) 4 (cpU (A 22) (A 4) 8)) 5 (cpU (A 23) (A 5) 8)) 6 (cpU (A 24) (A 6) 8)) 7 (cpU (A 25) (A 7) 8)) 8 (cpU (A 26) (A 8) 50)) 9 (cpU (A 27) (A 9) 20)
  have hA1 : A1 = aset (aset (aset (aset (aset (aset (aset (aset (aset A 1 (cpU (A 19) (A 1) 8)) 2 (cpU (A 20) (A 2) 8)) 3 (cpU (A 21) (A 3) 8)) 4 (cpU (A 22) (A 4) 8)) 5 (cpU (A 23) (A 5) 8)) 6 (cpU (A 24) (A 6) 8)) 7 (cpU (A 25) (A 7) 8)) 8 (cpU (A 26) (A 8) 50)) 9 (cpU (A 27) (A 9) 20) := rfl
  clear_value A1
  have c8 : (¬ (0 : Int32) < 0 ∧ ¬ (0 : Int32) < 0 ∧ ¬ (8 : Int32) < 0 ∧ (0 : Int32).toNatClampNeg + (8 : Int32).toNatClampNeg ≤ 8 ∧ (0 : Int32).toNatClampNeg + (8 : Int32).toNatClampNeg ≤ 8) := by decide
  have c20 : (¬ (0 : Int32) < 0 ∧ ¬ (0 : Int32) < 0 ∧ ¬ (20 : Int32) < 0 ∧ (0 : Int32).toNatClampNeg + (20 : Int32).toNatClampNeg ≤ 20 ∧ (0 : Int32).toNatClampNeg + (20 : Int32).toNatClampNeg ≤ 20) := by decide
  refine ⟨Nat.le_of_ble_eq_true rfl, 400, xlk [(135, 2)], fun m pc ls st w => pc = 135 ∧ st = [] ∧ ls = [(0, .ref 0), (1, .ref 18)] ∧ w = CC A1 F, ?_, ?_⟩
  · refine And.intro c8 (And.intro c8 (And.intro c8 (And.intro c8 (And.intro c8 (And.intro c8 (And.intro c8 (And.intro ⟨by decide, by decide, by decide, by decide, by decide, fun i _ => hB _⟩ (And.intro c20 ?_))))))))
    refine ⟨0, rfl, rfl, rfl, ?_⟩
    rw [hA1]
    simp only [← cpy_cpU]
    rfl
  · rintro m pc m9 ls st w hc ⟨rfl, rfl, rfl, rfl⟩
    refine Or.inl ⟨A1, F, rfl, rfl, fun A2 hA2 => ?_⟩
    refine Or.inr ⟨A2, fset F 20 (F 40), rfl, rfl, fun A3 hA3 => ?_⟩
    refine h A3 (fset (fset (fset (fset (fset (fset (fset (fset F 20 (F 40)) 21 (F 41)) 11 (F 31)) 12 (F 32)) 13 (F 33)) 14 (F 34)) 15 (F 35)) 16 (F 36)) ?_ ?_ ?_ ?_ ?_ ?_ (fun q a b c d e f g i => (fsN f).trans ((fsN e).trans ((fsN d).trans ((fsN c).trans ((fsN b).trans ((fsN a).trans ((fsN i).trans (fsN g)))))))) rfl rfl rfl rfl rfl rfl rfl rfl
    · rw [hA3, hA2, hA1]
      exact sm_tr (sm_tr (sm_tr (sm_aset (q := 1) rfl) (sm_tr (sm_aset (q := 2) rfl) (sm_tr (sm_aset (q := 3) rfl) (sm_tr (sm_aset (q := 4) rfl) (sm_tr (sm_aset (q := 5) rfl) (sm_tr (sm_aset (q := 6) rfl) (sm_tr (sm_aset (q := 7) rfl) (sm_tr (sm_aset (q := 8) rfl) (sm_aset (q := 9) rfl))))))))) (sm_aset (q := 11) rfl)) (sm_aset (q := 15) rfl)
    · intro j h1 h7 i hi
      rw [hA3, hA2, hA1]
      have : j = 1 ∨ j = 2 ∨ j = 3 ∨ j = 4 ∨ j = 5 ∨ j = 6 ∨ j = 7 := by omega
      rcases this with rfl | rfl | rfl | rfl | rfl | rfl | rfl <;> exact cpU_lt hi
    · rw [hA3, hA2, hA1]
      rfl
    · rw [hA3, hA2, hA1]
      rfl
    · rw [hA3, hA2, hA1]
      rfl
    · rw [hA3, hA2, hA1]
      rfl
