/-! ===== the class: the fault ===== -/
def RT (u : Bool) (A : XA) (F : Nat → Int32) : XW := [.inr (3, [.ref 1, .ref 5, .int (F 80), .int (F 81), .retAddr (bif u then 4 else 3)]), .inr (2, [.ref 2, .ref 3, .ref 4, .int (F 82)]), .inl (0, 50, .inl (A 2)), .inl (0, 50, .inl (A 3)), .inl (0, 4, .inl (A 4)), .inl (1, 50, .inl (A 5)), .inl (1, 50, .inl (A 6))]
def RTD (u : Bool) : List DC := [.inr (.inr (3, [(0, 1), (0, 5), (1, 80), (1, 81), (2, (bif u then 4 else 3))])), .inr (.inr (2, [(0, 2), (0, 3), (0, 4), (1, 82)])), .inl (0, 50), .inl (0, 50), .inl (0, 4), .inl (1, 50), .inl (1, 50)]
theorem RT_dn {u : Bool} (A : XA) (F : Nat → Int32) : RT u A F = dn A F 0 (RTD u) := rfl
theorem ckE {u : Bool} : cq (RTD u) (RXD u) [0, 1, 2, 3, 4, 5] [(80, 80), (81, 81), (82, 82)] = true := by
  cases u <;> decide +kernel
theorem ckL {u : Bool} : cq (RTD u) LWxD [1, 2, 3, 4] [(90, 82)] = true := by
  cases u <;> decide +kernel
def sX2_clear_RT : XS := fun as w post => ∃ (u : Bool) (A : XA) (F : Nat → Int32), as = [.ref 1] ∧ w = RT u A F ∧ post none (RT u A (fset F 82 0))
set_option maxRecDepth 10000 in
set_option maxHeartbeats 1000000 in
theorem mX2_clear_RT (d : Nat) (hd : 0 ≤ d) : xCT d yX2_clear cX2_clear 1 none sX2_clear_RT := by
  refine xCT_in (mX2_clear d hd) ?_
  rintro as w post ⟨u, A, F, rfl, rfl, h1⟩
  refine ⟨[1, 2, 3, 4], [.ref 0], LWx (adn [1, 2, 3, 4] A) (fdn [(90, 82)] F), rfl, cq_dn (ckL (u := u)) A F, rfl, A 2, A 3, A 4, F 82, rfl, rfl, ?_⟩
  refine cq_go (A := A) (F := F) (A' := adn [1, 2, 3, 4] A) (F' := fset (fdn [(90, 82)] F) 90 0) (Dc := LWxD) (ckL (u := u)) ?_
  rw [apu_id, fp4]
  exact h1
def FM3 : List (Nat × Nat) := [(80, 80), (81, 81), (82, 82)]
theorem fpu3 {F F' : Nat → Int32} {q : Nat} (h0 : F' 80 = F 80) (h1 : q ≠ 81) (h2 : q ≠ 82) : fpu FM3 F' F q = F q := by
  by_cases g : q = 80
  · subst g
    exact h0
  · unfold fpu
    have b0 : Nat.beq 80 q = false := by
      cases hb : Nat.beq 80 q with
      | false => rfl
      | true => exact absurd (Nat.eq_of_beq_eq_true hb).symm g
    have b1 : Nat.beq 81 q = false := by
      cases hb : Nat.beq 81 q with
      | false => rfl
      | true => exact absurd (Nat.eq_of_beq_eq_true hb).symm h1
    have b2 : Nat.beq 82 q = false := by
      cases hb : Nat.beq 82 q with
      | false => rfl
      | true => exact absurd (Nat.eq_of_beq_eq_true hb).symm h2
    have e3 : rlk FM3 q = none := by
      unfold FM3 rlk
      rw [b0]
      unfold rlk
      rw [b1]
      unfold rlk
      rw [b2]
      rfl
    rw [e3]
def sX3_readEither : XS := sRd 0 6
theorem mX3_readEither (d : Nat) (hd : 54 ≤ d) : xCT d yX3_readEither cX3_readEither 4 (some .boolean) sX3_readEither := (rdAll 6 d (by omega)).2
def sX3_readEither_RT : XS := fun as w post => ∃ (u : Bool) (A : XA) (F b : Nat → Int32) (n : Nat), as = [.ref 0, .int 0] ∧ w = RT u A F ∧ RK A F b n 0 0 ∧ ∀ r, r = PR b n (uN u) 0 0 0 → (r.1 = true → ∀ A' F', GD A F 0 A' F' r.2.1 r.2.2 → post (some (.int 1)) (RT u A' F')) ∧ (r.1 = false → ∀ A' F', BD A F A' F' r.2.1 → post (some (.int 0)) (RT u A' F'))
def P6 : List Nat := [0, 1, 2, 3, 4, 5]
set_option maxRecDepth 10000 in
set_option maxHeartbeats 1000000 in
theorem mX3_readEither_RT (d : Nat) (hd : 54 ≤ d) : xCT d yX3_readEither cX3_readEither 4 (some .boolean) sX3_readEither_RT := by
  refine xCT_in (mX3_readEither d hd) ?_
  rintro as w post ⟨u, A, F, b, n, rfl, rfl, hK, h⟩
  refine ⟨P6, [.ref 0, .int 0], RX u (adn P6 A) (fdn FM3 F), rfl, cq_dn (ckE (u := u)) A F, rfl, u, adn P6 A, fdn FM3 F, b, n, 0, 0, 0, rfl, rfl, hK, by omega, by omega, fun r hrr => ⟨fun ok A2 F2 hG => ?_, fun bad A2 F2 hG => ?_⟩⟩
  · refine cq_go (A := A) (F := F) (A' := A2) (F' := F2) (ckE (u := u)) ?_
    obtain ⟨h1, h2, h3, h4, h5, h6, h7⟩ := hG
    exact (h r hrr).1 ok (apu P6 A2 A) (fpu FM3 F2 F) ⟨sm_up (ps := P6) h1, h2, h3, h4, h5, fun q q1 q2 => fpu3 (h6 80 (by omega) (by omega)) q1 q2, h7⟩
  · refine cq_go (A := A) (F := F) (A' := A2) (F' := F2) (ckE (u := u)) ?_
    obtain ⟨h1, h2, h3, h4⟩ := hG
    exact (h r hrr).2 bad (apu P6 A2 A) (fpu FM3 F2 F) ⟨sm_up (ps := P6) h1, h2, h3, fun q q1 q2 => fpu3 (h4 80 (by omega) (by omega)) q1 q2⟩
def sX3_faultOf : XS := fun as w post => ∃ (u : Bool) (A : XA) (F b : Nat → Int32) (n : Nat) (v : Bool), as = [.ref 0, .ref 6, .int (nI n), .int (nI (uN v))] ∧ w = RT u A F ∧ n ≤ 50 ∧ sb_Fit (A 6) ∧ (∀ j, j < n → A 6 j &&& 255 = b j) ∧ ∀ r, r = PR b n (uN v) 0 0 0 →
  (r.1 = true → r.2.1 = n → ∀ A' F', sm [2, 5] A' A → F' 82 = nI r.2.2.length → (∀ i (h : i < r.2.2.length), A' 2 i = r.2.2[i]) → (∀ q, q < 80 ∨ 82 < q → F' q = F q) → post (some (.int (-1))) (RT v A' F')) ∧
  (¬ (r.1 = true ∧ r.2.1 = n) → ∀ A' F', sm [2, 5] A' A → (∀ q, q < 80 ∨ 82 < q → F' q = F q) → post (some (.int (nI r.2.1))) (RT v A' F'))
theorem cpb {f g : Nat → Int32} {n : Nat} : va_cpy f g 0 0 n = cpU f g n := cpy_cpU f g n
set_option maxRecDepth 10000 in
set_option maxHeartbeats 1000000 in
theorem mX3_faultOf (d : Nat) (hd : 55 ≤ d) : xCT d yX3_faultOf cX3_faultOf 4 (some .int) sX3_faultOf := by
  obtain ⟨d, rfl⟩ : ∃ e, d = e + 1 := ⟨d - 1, by omega⟩
  refine xmet (tb := tX3_faultOf) (fl := fX3) (kc := nX3) (gs := g0) (cl := xlk [(43, true, 1, xrcv 2 (sX2_clear_RT)), (46, true, 2, xrcv 3 (sX3_readEither_RT)), (35, false, 5, xCpy)]) (by decide) tX3_faultOf_ok fX3_ok nX3_ok g0_ok (xg_cons (k_X3_43 (mX2_clear_RT d (by omega))) (xg_cons (k_X3_46 (mX3_readEither_RT d (by omega))) (xg_cons (k_X3_35_copy (xrm_ok d)) xg_nil))) ?_
  rintro L xs as w Qp ⟨u, A, F, b, n, v, rfl, rfl, hn, hfit, hb, h⟩
  have h := h _ rfl
  generalize eR : PR b n (uN v) 0 0 0 = R at h
  refine ⟨Nat.le_of_ble_eq_true rfl, 400, xlk [(37, 1)], fun m pc ls st w => pc = 37 ∧ st = [] ∧ ls = [(0, .ref 0)] ∧ w = RT v (aset A 5 (cpU (A 6) (A 5) 50)) (fset (fset F 80 (nI n)) 81 0), ?_, ?_⟩
  · refine And.intro ⟨by decide, by decide, by decide, by decide, by decide, fun i _ => hfit _⟩ ?_
    cases v
    · refine And.intro (fun g => absurd rfl g) (fun g => ?_)
      refine ⟨0, rfl, rfl, rfl, ?_⟩
      rw [← cpb]
      cases u <;> rfl
    · refine And.intro (fun g => ?_) (fun g => absurd (show ¬ nI 1 = 0 by decide) g)
      refine ⟨0, rfl, rfl, rfl, ?_⟩
      rw [← cpb]
      cases u <;> rfl
  · rintro m pc m9 ls st w hc ⟨rfl, rfl, rfl, rfl⟩
    refine ⟨v, _, _, rfl, rfl, ?_⟩
    have hK : RK (aset A 5 (cpU (A 6) (A 5) 50)) (fset (fset (fset F 80 (nI n)) 81 0) 82 0) b n 0 0 := ⟨rfl, hn, rfl, Nat.zero_le _, rfl, Nat.le_refl _, fun j hj => by
      show cpU (A 6) (A 5) 50 j &&& 255 = b j
      rw [cpU_lt (by omega)]
      exact hb j hj⟩
    have hF : ∀ q, q < 80 ∨ 82 < q → fset (fset (fset F 80 (nI n)) 81 0) 82 0 q = F q := fun q hq => (fsN (by omega)).trans ((fsN (by omega)).trans (fsN (by omega)))
    refine ⟨v, _, _, b, n, rfl, rfl, hK, fun r hrr => ⟨fun ok A2 F2 hG => ?_, fun bad A2 F2 hG => ?_⟩⟩
    · rw [eR] at hrr
      subst hrr
      have hS : sm [2, 5] A2 A := sm_tr (sm_aset (q := 5) rfl) (sm_w hG.1 rfl)
      have hF2 : ∀ q, q < 80 ∨ 82 < q → F2 q = F q := fun q hq => (hG.2.2.2.2.2.1 q (by omega) (by omega)).trans (hF q hq)
      have e80 : F2 80 = nI n := hG.2.2.2.2.2.1 80 (by omega) (by omega)
      have hle : r.2.1 ≤ n := by rw [← eR]; exact PR_le _ _ _ _ (Nat.zero_le _)
      refine br_f xc_eq1 ?_
      refine And.intro (fun g => ?_) (fun g => ?_)
      · have g : ¬ F2 81 = F2 80 := g
        rw [hG.2.1, e80] at g
        have h9 := h.2 (fun q => g (by rw [q.2])) A2 F2 hS hF2
        rw [← hG.2.1] at h9
        exact h9
      · have g : F2 81 = F2 80 := Classical.byContradiction g
        rw [hG.2.1, e80] at g
        have e := nI_inj (by omega) (by omega) g
        refine h.1 ok e A2 F2 hS ?_ (fun i hi => ?_) hF2
        · rw [hG.2.2.1, Nat.zero_add]
        · have := hG.2.2.2.2.1 i hi
          rw [Nat.zero_add] at this
          exact this
    · rw [eR] at hrr
      subst hrr
      have hS : sm [2, 5] A2 A := sm_tr (sm_aset (q := 5) rfl) (sm_w hG.1 rfl)
      have hF2 : ∀ q, q < 80 ∨ 82 < q → F2 q = F q := fun q hq => (hG.2.2.2 q (by omega) (by omega)).trans (hF q hq)
      refine br_t xc_eq0 ?_
      have h9 := h.2 (fun q => by rw [bad] at q; cases q.1) A2 F2 hS hF2
      rw [← hG.2.1] at h9
      exact h9
