/-! ===== the class: all states: which is behind which ===== -/
def AC (A : XA) (F : Nat → Int32) : XW := [.inr (0, [.int (F 60), .int (F 61), .int (F 62), .int (F 63), .ref 1, .ref 2, .ref 3, .ref 4, .ref 5]), .inl (0, 3000, .inl (A 1)), .inl (0, 3000, .inl (A 2)), .inl (0, 8, .inl (A 3)), .inl (0, 8, .inl (A 4)), .inl (0, 96, .inl (A 5)), .inr (7, [.ref 7]), .inl (2, 8, .inr (.inr (.inr (.inr (KT 8 8))))), .inl (0, 144, .inl (A 8)), .inl (0, 144, .inl (A 9)), .inl (0, 144, .inl (A 10)), .inl (0, 144, .inl (A 11)), .inl (0, 144, .inl (A 12)), .inl (0, 144, .inl (A 13)), .inl (0, 144, .inl (A 14)), .inl (0, 144, .inl (A 15)), .inr (1, [.ref 17, .ref 18, .ref 19, .ref 20, .ref 21, .ref 22, .ref 23, .ref 24, .ref 25, .ref 26, .ref 30, .int (F 11), .int (F 12), .int (F 13), .int (F 14), .int (F 15), .int (F 16)]), .inl (0, 8, .inl (A 17)), .inl (0, 8, .inl (A 18)), .inl (0, 8, .inl (A 19)), .inl (0, 8, .inl (A 20)), .inl (0, 8, .inl (A 21)), .inl (0, 8, .inl (A 22)), .inl (0, 8, .inl (A 23)), .inl (1, 50, .inl (A 24)), .inl (0, 20, .inl (A 25)), .inr (2, [.ref 27, .ref 28, .ref 29, .int (F 20)]), .inl (0, 50, .inl (A 27)), .inl (0, 50, .inl (A 28)), .inl (0, 4, .inl (A 29)), .inr (2, [.ref 31, .ref 32, .ref 33, .int (F 21)]), .inl (0, 50, .inl (A 31)), .inl (0, 50, .inl (A 32)), .inl (0, 4, .inl (A 33))]
def ACD : List DC := [.inr (.inr (0, [(1, 60), (1, 61), (1, 62), (1, 63), (0, 1), (0, 2), (0, 3), (0, 4), (0, 5)])), .inl (0, 3000), .inl (0, 3000), .inl (0, 8), .inl (0, 8), .inl (0, 96), .inr (.inr (7, [(0, 7)])), .inr (.inl (8, 8)), .inl (0, 144), .inl (0, 144), .inl (0, 144), .inl (0, 144), .inl (0, 144), .inl (0, 144), .inl (0, 144), .inl (0, 144), .inr (.inr (1, [(0, 17), (0, 18), (0, 19), (0, 20), (0, 21), (0, 22), (0, 23), (0, 24), (0, 25), (0, 26), (0, 30), (1, 11), (1, 12), (1, 13), (1, 14), (1, 15), (1, 16)])), .inl (0, 8), .inl (0, 8), .inl (0, 8), .inl (0, 8), .inl (0, 8), .inl (0, 8), .inl (0, 8), .inl (1, 50), .inl (0, 20), .inr (.inr (2, [(0, 27), (0, 28), (0, 29), (1, 20)])), .inl (0, 50), .inl (0, 50), .inl (0, 4), .inr (.inr (2, [(0, 31), (0, 32), (0, 33), (1, 21)])), .inl (0, 50), .inl (0, 50), .inl (0, 4)]
theorem AC_dn (A : XA) (F : Nat → Int32) : AC A F = dn A F 0 ACD := rfl
def PS_AC : List Nat := [6, 7, 8, 9, 10, 11, 12, 13, 14, 15, 16, 17, 18, 19, 20, 21, 22, 23, 24, 25, 26, 27, 28, 29, 30, 31, 32, 33, 3, 4]
theorem ck_AC : cq (ACD) SPD (PS_AC) CF = true := by
  decide +kernel
def sX7_step_AC : XS := fun as w post => ∃ (A : XA) (F D : Nat → Int32) (n k : Nat), as = [.ref 6, .ref 16, .ref 3, .ref 4] ∧ w = AC A F ∧ DI D n k ∧ TXO D 0 ∧ CR D (adn CP16 A) F ∧ KV (fun i => A (8 + i)) D n k ∧ (∀ i, i < k → bd (A 3 i) n) ∧ ∀ A', sm [8, 9, 10, 11, 12, 13, 14, 15, 28, 29, 4] A' A → KV (fun i => A' (8 + i)) D n k → A' 4 = cpU (stp D k (A 3)) (A 4) k → post none (AC A' F)
set_option maxRecDepth 10000 in
set_option maxHeartbeats 1000000 in
theorem mX7_step_AC (d : Nat) (hd : 3 ≤ d) : xCT d yX7_step cX7_step 10 none sX7_step_AC := by
  refine xCT_in (mX7_step d hd) ?_
  rintro as w post ⟨A, F, D, n, k, rfl, rfl, hI, hT, hC, hKV, hf, h⟩
  have hk8 : k ≤ 8 := hI.2.2.2.2.1
  refine ⟨(PS_AC), [.ref 0, .ref 10, .ref 28, .ref 29], SP (adn (PS_AC) A) (fdn CF F), rfl, cq_dn ck_AC A F, rfl, adn (PS_AC) A, fdn CF F, D, n, k, rfl, rfl, hI, hT, hC, KV_cg hKV (fun t ht => by rcases h8 (show t < 8 by omega) with rfl | rfl | rfl | rfl | rfl | rfl | rfl | rfl <;> rfl), hf, fun A2 hA2 hK2 h29 => ?_⟩
  refine cq_go (A := A) (F := F) (A' := A2) (F' := fdn CF F) ck_AC ?_
  rw [fpu_id (show fck CF = true by decide)]
  exact h (apu (PS_AC) A2 A) (sm_up hA2) (KV_cg hK2 (fun t ht => by rcases h8 (show t < 8 by omega) with rfl | rfl | rfl | rfl | rfl | rfl | rfl | rfl <;> rfl)) h29
def PR_AC : List Nat := [16, 17, 18, 19, 20, 21, 22, 23, 24, 25, 26, 27, 28, 29, 30, 31, 32, 33, 4]
theorem ckR_AC : cq ACD CHRD PR_AC CF = true := by decide +kernel
def sX1_stateOf_AC : XS := fun as w post => ∃ (A : XA) (F : Nat → Int32) (k : Nat), as = [.ref 16, .ref 4] ∧ w = AC A F ∧ F 12 = nI k ∧ k ≤ 8 ∧ ∀ v, v = numF (F 11) (A 4) k 0 → post (some (.int v)) (AC A F)
set_option maxRecDepth 10000 in
set_option maxHeartbeats 1000000 in
theorem mX1_stateOf_AC (d : Nat) (hd : 0 ≤ d) : xCT d yX1_stateOf cX1_stateOf 4 (some .int) sX1_stateOf_AC := by
  refine xCT_in (mX1_stateOf d hd) ?_
  rintro as w post ⟨A, F, k, rfl, rfl, hk, hk8, h⟩
  refine ⟨PR_AC, [.ref 0, .ref 18], CHR (adn PR_AC A) (fdn CF F), rfl, cq_dn ckR_AC A F, rfl, adn PR_AC A, fdn CF F, A 4, 18, k, rfl, Or.inr ⟨rfl, rfl⟩, hk, hk8, ?_⟩
  exact cq_id (A := A) (F := F) ckR_AC fckCF (h _ rfl)
/-- the digits of the number behind -/
theorem dg_q {c n i : Nat} (hn : 2 ≤ n) (h : (c + 1) % n ^ i = 0) : c / n ^ i = (c + 1) / n ^ i - 1 ∧ 1 ≤ (c + 1) / n ^ i := by
  have hp : 0 < n ^ i := Nat.pow_pos (by omega)
  have e := Nat.div_add_mod (c + 1) (n ^ i)
  rw [h, Nat.add_zero] at e
  generalize (c + 1) / n ^ i = q at e
  have hq : 1 ≤ q := by
    rcases Nat.eq_zero_or_pos q with q0 | q0
    · rw [q0, Nat.mul_zero] at e
      omega
    · exact q0
  obtain ⟨r, rfl⟩ : ∃ r, q = r + 1 := ⟨q - 1, by omega⟩
  refine ⟨?_, hq⟩
  rw [Nat.mul_succ] at e
  rw [Nat.add_sub_cancel]
  refine Nat.div_eq_of_lt_le ?_ ?_
  · rw [Nat.mul_comm]
    omega
  · rw [Nat.succ_mul, Nat.mul_comm]
    omega
theorem dg_lo {c n i t : Nat} (hn : 2 ≤ n) (h : (c + 1) % n ^ i = 0) (ht : t < i) : dg n (c + 1) t = 0 := by
  unfold dg
  obtain ⟨q, hq⟩ := Nat.dvd_of_mod_eq_zero h
  have e : (c + 1) / n ^ t % n = 0 := by
    rw [hq, show i = (i - t - 1) + 1 + t by omega, Nat.pow_add, Nat.mul_right_comm, Nat.mul_div_cancel _ (Nat.pow_pos (by omega)), Nat.pow_succ, Nat.mul_assoc, Nat.mul_comm n q, ← Nat.mul_assoc, Nat.mul_mod_left]
  rw [e]
  rfl
theorem dg_go {c n i : Nat} (hn : 2 ≤ n) (h : (c + 1) % n ^ i = 0) (hd : c / n ^ i % n = n - 1) : (c + 1) % n ^ (i + 1) = 0 := by
  obtain ⟨e1, e2⟩ := dg_q hn h
  have e3 := Nat.div_add_mod (c + 1) (n ^ i)
  rw [h, Nat.add_zero] at e3
  generalize (c + 1) / n ^ i = q at e1 e2 e3
  rw [e1] at hd
  have e4 : q % n = 0 := by
    have e5 := Nat.div_add_mod (q - 1) n
    rw [hd] at e5
    have e6 : q = n * ((q - 1) / n + 1) := by rw [Nat.mul_succ]; omega
    rw [e6, Nat.mul_mod_right]
  obtain ⟨r, rfl⟩ := Nat.dvd_of_mod_eq_zero e4
  rw [← e3, Nat.pow_succ, ← Nat.mul_assoc, Nat.mul_mod_right]
theorem dg_at {c n i : Nat} (hn : 2 ≤ n) (h : (c + 1) % n ^ i = 0) (hd : ¬ c / n ^ i % n = n - 1) : (c + 1) / n ^ i % n = c / n ^ i % n + 1 ∧ ∀ t, i < t → (c + 1) / n ^ t % n = c / n ^ t % n := by
  obtain ⟨e1, e2⟩ := dg_q hn h
  have hq1 : ∀ q : Nat, 1 ≤ q → ¬ (q - 1) % n = n - 1 → q % n = (q - 1) % n + 1 ∧ q / n = (q - 1) / n := by
    intro q hq hne
    have e5 := Nat.div_add_mod (q - 1) n
    have hlt : (q - 1) % n < n := Nat.mod_lt _ (by omega)
    generalize (q - 1) / n = a at e5 ⊢
    generalize (q - 1) % n = b at e5 hne hlt ⊢
    have e6 : q = n * a + (b + 1) := by omega
    rw [e6]
    exact ⟨by rw [Nat.mul_add_mod, Nat.mod_eq_of_lt (by omega)], by rw [Nat.mul_add_div (by omega), Nat.div_eq_of_lt (by omega), Nat.add_zero]⟩
  rw [e1] at hd
  obtain ⟨a1, a2⟩ := hq1 _ e2 hd
  refine ⟨by rw [e1]; exact a1, fun t ht => ?_⟩
  have et : ∀ x, x / n ^ t = x / n ^ i / n / n ^ (t - i - 1) := fun x => by
    rw [Nat.div_div_eq_div_mul, Nat.div_div_eq_div_mul, Nat.mul_comm n, ← Nat.pow_succ, ← Nat.pow_add]
    congr 2
    omega
  rw [et, et, a2, e1]
def sX0_toNextState : XS := fun as w post => ∃ (A : XA) (F : Nat → Int32) (n k c : Nat), as = [.ref 0, .ref 16] ∧ w = AC A F ∧ F 11 = nI n ∧ 2 ≤ n ∧ n ≤ 12 ∧ F 12 = nI k ∧ k ≤ 8 ∧ (∀ t, t < k → A 3 t = dg n c t) ∧ ∀ A', sm [3] A' A → (∀ t, t < k → A' 3 t = dg n (c + 1) t) → post none (AC A' F)
theorem acset3 {A : XA} {F u u' : Nat → Int32} (h : u = u') : List.set (AC A F) 3 (.inl (0, 8, .inl u)) = AC (aset A 3 u') F := by
  subst h
  rfl
set_option maxRecDepth 10000 in
set_option maxHeartbeats 1000000 in
theorem mX0_toNextState (d : Nat) (hd : 0 ≤ d) : xCT d yX0_toNextState cX0_toNextState 3 none sX0_toNextState := by
  refine xmet (tb := tX0_toNextState) (fl := fX0) (kc := nX0) (gs := g0) (cl := xlk []) (by decide) tX0_toNextState_ok fX0_ok nX0_ok g0_ok xg_nil ?_
  rintro L xs as w Qp ⟨A, F, n, k, c, rfl, rfl, hn, hn2, hn12, hk, hk8, hr, h⟩
  have hN : F 11 - 1 = nI (n - 1) := by rw [hn]; exact pk_sub (b := 1) (by omega)
  refine ⟨Nat.le_of_ble_eq_true rfl, 400, xlk [(2, 3)], fun m pc ls st w => pc = 2 ∧ st = [] ∧ ∃ i A', i ≤ k ∧ m = k - i ∧ ls = [(0, .ref 0), (1, .ref 16), (2, .int (nI i))] ∧ w = AC A' F ∧ sm [3] A' A ∧ (c + 1) % n ^ i = 0 ∧ (∀ t, t < i → A' 3 t = 0) ∧ (∀ t, i ≤ t → t < k → A' 3 t = dg n c t), ?_, ?_⟩
  · exact ⟨k, rfl, rfl, 0, A, Nat.zero_le _, rfl, rfl, rfl, sm_rf, by rw [Nat.pow_zero, Nat.mod_one], fun t ht => absurd ht (Nat.not_lt_zero _), fun t _ ht => hr t ht⟩
  · rintro m pc m9 ls st w hc ⟨rfl, rfl, i, A', hi, rfl, rfl, rfl, hS, hm, hlo, hhi⟩
    have fin : i = k → Qp none (AC A' F) := fun e => h A' hS (fun t ht => by rw [hlo t (by omega), dg_lo hn2 hm (by omega)])
    refine And.intro (fun g => ?_) (fun g => ?_)
    · have := ge_n hk (by omega) (by omega) g
      refine And.intro (fun g2 => ?_) (fun g2 => ?_)
      · exact fin (by omega)
      · exact absurd g g2
    · have hlt := nge_n hk (by omega) (by omega) g
      have i0 : vp_in (nI i) 8 := vp_in_nI (by omega) (by decide)
      have ei : (nI i).toNatClampNeg = i := cl (by omega)
      have hd : c / n ^ i % n < n := Nat.mod_lt _ (by omega)
      have e3 : A' 3 i = nI (c / n ^ i % n) := hhi i (Nat.le_refl _) hlt
      refine And.intro i0 ?_
      refine And.intro (fun g2 => ?_) (fun g2 => ?_)
      · have g2 : ¬ A' 3 (nI i).toNatClampNeg = F 11 - 1 := g2
        rw [hN, ei, e3] at g2
        have hne : ¬ c / n ^ i % n = n - 1 := fun q => g2 (by rw [q])
        obtain ⟨d1, d2⟩ := dg_at hn2 hm hne
        refine And.intro (fun g3 => ?_) (fun g3 => ?_)
        · exact absurd g3 g
        · refine And.intro i0 (And.intro i0 ?_)
          have e4 : upd (A' 3) (nI i).toNatClampNeg (A' 3 (nI i).toNatClampNeg + 1) = upd (A' 3) i (nI (c / n ^ i % n + 1)) := by rw [ei, e3, nI_1]
          have h9 := h (aset A' 3 (upd (A' 3) i (nI (c / n ^ i % n + 1)))) (sm_tr hS (sm_aset rfl)) (fun t ht => ?_)
          · rw [← acset3 e4] at h9
            exact h9
          · show upd (A' 3) i (nI (c / n ^ i % n + 1)) t = dg n (c + 1) t
            by_cases q : t = i
            · rw [q, pk_us]
              unfold dg
              rw [d1]
            · rw [pk_un q]
              by_cases q2 : t < i
              · rw [hlo t q2, dg_lo hn2 hm q2]
              · rw [hhi t (by omega) ht]
                unfold dg
                rw [d2 t (by omega)]
      · have g2 : A' 3 (nI i).toNatClampNeg = F 11 - 1 := Classical.byContradiction g2
        rw [hN, ei, e3] at g2
        have hee : c / n ^ i % n = n - 1 := nI_inj (by omega) (by omega) g2
        refine And.intro i0 ?_
        refine ⟨k - (i + 1), by omega, rfl, rfl, i + 1, aset A' 3 (upd (A' 3) i 0), hlt, rfl, by rw [← nI_1 i]; rfl, acset3 (by rw [ei]; rfl), sm_tr hS (sm_aset rfl), dg_go hn2 hm hee, fun t ht => ?_, fun t h1 h2 => ?_⟩
        · show upd (A' 3) i 0 t = 0
          by_cases q : t = i
          · rw [q, pk_us]
          · rw [pk_un q]
            exact hlo t (by omega)
        · show upd (A' 3) i 0 t = _
          rw [pk_un (by omega)]
          exact hhi t (by omega) h2
/-- what filling leaves -/
def sX0_fill : XS := fun as w post => ∃ (A : XA) (F D : Nat → Int32) (n k : Nat), as = [.ref 0, .ref 16, .ref 6] ∧ w = AC A F ∧ DI D n k ∧ TXO D 0 ∧ CR D (adn CP16 A) F ∧ KV (fun i => A (8 + i)) D n k ∧
  (n ^ k ≤ 3000 → ∀ A' F', sm [1, 3, 4, 8, 9, 10, 11, 12, 13, 14, 15, 28, 29] A' A → KV (fun i => A' (8 + i)) D n k → F' 63 = nI (n ^ k) → (∀ q, q ≠ 63 → F' q = F q) → (∀ c, c < n ^ k → A' 1 c = nI (nx D n k c)) → post (some (.int 1)) (AC A' F')) ∧
  (¬ n ^ k ≤ 3000 → ∀ F', (∀ q, q ≠ 63 → F' q = F q) → post (some (.int 0)) (AC A F'))
theorem acset1 {A : XA} {F u u' : Nat → Int32} (h : u = u') : List.set (AC A F) 1 (.inl (0, 3000, .inl u)) = AC (aset A 1 u') F := by
  subst h
  rfl
set_option maxRecDepth 10000 in
set_option maxHeartbeats 1000000 in
theorem mX0_fill (d : Nat) (hd : 4 ≤ d) : xCT d yX0_fill cX0_fill 4 (some .boolean) sX0_fill := by
  obtain ⟨d, rfl⟩ : ∃ e, d = e + 1 := ⟨d - 1, by omega⟩
  refine xmet (tb := tX0_fill) (fl := fX0) (kc := nX0) (gs := g0) (cl := xlk [(48, false, 2, xfrE sJ7_fill_53178), (54, true, 4, xrcv 7 (sX7_step_AC)), (60, true, 2, xrcv 1 (sX1_stateOf_AC)), (64, true, 2, xrcv 0 (sX0_toNextState))]) (by decide) tX0_fill_ok fX0_ok nX0_ok g0_ok (xg_cons (k_X0_48 (xCT_frE (mJ7_fill_53178 d (by omega)))) (xg_cons (k_X0_54 (mX7_step_AC d (by omega))) (xg_cons (k_X0_60 (mX1_stateOf_AC d (by omega))) (xg_cons (k_X0_64 (mX0_toNextState d (by omega))) xg_nil)))) ?_
  rintro L xs as w Qp ⟨A, F, D, n, k, rfl, rfl, hI, hT, hC, hKV, hy, hno⟩
  obtain ⟨hn, hn2, hn12, hk, hk8, hSG, _⟩ := id hI
  have hF11 : F 11 = nI n := hC.1.trans hn
  have hF12 : F 12 = nI k := hC.2.1.trans hk
  have hpk : ∀ s, s ≤ 8 → n ^ s ≤ 429981696 := fun s hs => powb hn2 hn12 hs
  refine ⟨Nat.le_of_ble_eq_true rfl, 400, xlk [(7, 4), (56, 4)], fun m pc ls st w => st = [] ∧ ((pc = 7 ∧ ∃ s z, s ≤ k ∧ n ^ s ≤ 3000 ∧ z = nI (n ^ s) ∧ m = 5000 - s ∧ ls = [(0, .ref 0), (1, .ref 16), (2, .ref 6), (3, .int (nI s))] ∧ w = AC A (fset F 63 z)) ∨
    (pc = 56 ∧ n ^ k ≤ 3000 ∧ ∃ c A', c ≤ n ^ k ∧ m = n ^ k - c ∧ ls = [(0, .ref 0), (1, .ref 16), (2, .ref 6), (3, .int (nI c))] ∧ w = AC A' (fset F 63 (nI (n ^ k))) ∧ sm [1, 3, 4, 8, 9, 10, 11, 12, 13, 14, 15, 28, 29] A' A ∧ KV (fun i => A' (8 + i)) D n k ∧ (∀ t, t < k → A' 3 t = dg n c t) ∧ (∀ x, x < c → A' 1 x = nI (nx D n k x)))), ?_, ?_⟩
  · exact ⟨5000, rfl, Or.inl ⟨rfl, 0, 1, Nat.zero_le _, by rw [Nat.pow_zero]; omega, rfl, rfl, rfl, rfl⟩⟩
  · rintro m pc m9 ls st w hc ⟨rfl, ⟨rfl, s, z, hs, hs3, hz, rfl, rfl, rfl⟩ | ⟨rfl, h3, c, A', hcn, rfl, rfl, rfl, hS, hKV', hr, hb⟩⟩
    · refine And.intro (fun g => ?_) (fun g => ?_)
      · have := ge_n hF12 (by omega) (by omega) g
        have es : s = k := by omega
        subst es
        refine ⟨[3], [.ref 0, .int 0], [.inl (0, 8, .inl (A 3))], rfl, rfl, rfl, 8, A 3, 0, rfl, rfl, by decide, ?_⟩
        refine ⟨n ^ s - 0, by omega, rfl, Or.inr ⟨rfl, hs3, 0, aset A 3 (cpU (fun _ => 0) (A 3) 8), Nat.zero_le _, rfl, rfl, by rw [← hz]; rfl, sm_aset rfl, KV_cg hKV (fun t ht => asN (by omega)), fun t ht => ?_, fun x hx => absurd hx (Nat.not_lt_zero _)⟩⟩
        show cpU (fun _ => 0) (A 3) 8 t = dg n 0 t
        rw [cpU_lt (by omega)]
        unfold dg
        rw [Nat.zero_div, Nat.zero_mod]
        rfl
      · have hlt := nge_n hF12 (by omega) (by omega) g
        have hm1 : n ^ (s + 1) ≤ 36000 := by
          rw [Nat.pow_succ]
          have := Nat.mul_le_mul hs3 hn12
          omega
        have ez : z * F 11 = nI (n ^ (s + 1)) := by rw [hz, hF11, pk_mul, Nat.pow_succ]
        refine And.intro (fun g2 => ?_) (fun g2 => ?_)
        · have g2 : z * F 11 ≤ nI 3000 := g2
          rw [ez, fa_le, nI_toInt (by omega), nI_toInt (by omega)] at g2
          exact ⟨5000 - (s + 1), by omega, rfl, Or.inl ⟨rfl, s + 1, z * F 11, hlt, by omega, ez, rfl, by rw [← nI_1 s]; rfl, rfl⟩⟩
        · have g2 : ¬ z * F 11 ≤ nI 3000 := g2
          rw [ez, fa_le, nI_toInt (by omega), nI_toInt (by omega)] at g2
          have hmono : n ^ (s + 1) ≤ n ^ k := Nat.pow_le_pow_right (by omega) hlt
          exact ⟨rfl, hno (by omega) (fset (fset F 63 z) 63 (z * F 11)) (fun q hq => (fsN hq).trans (fsN hq))⟩
    · have e63 : fset F 63 (nI (n ^ k)) 63 = nI (n ^ k) := rfl
      refine And.intro (fun g => ?_) (fun g => ?_)
      · have := ge_n e63 (by omega) (by omega) g
        exact ⟨rfl, hy h3 A' (fset F 63 (nI (n ^ k))) hS hKV' rfl (fun q hq => fsN hq) (fun x hx => hb x (by omega))⟩
      · have hlt := nge_n e63 (by omega) (by omega) g
        have hC' : CR D (adn CP16 A') (fset F 63 (nI (n ^ k))) := CRsm (CP := CP16) (l := [1, 3, 4, 8, 9, 10, 11, 12, 13, 14, 15, 28, 29]) hC hS (by decide)
        refine ⟨A', fset F 63 (nI (n ^ k)), D, n, k, rfl, rfl, hI, hT, hC', hKV', fun t ht => by rw [hr t ht]; exact ⟨_, Nat.mod_lt _ (by omega), rfl⟩, fun A2 hS2 hK2 h4 => ?_⟩
        refine ⟨A2, fset F 63 (nI (n ^ k)), k, rfl, rfl, hF12, hk8, fun v hv => ?_⟩
        have hv : v = nI (nx D n k c) := by
          rw [hv, ← (nx_v hn hn2 hn12 hk8 c).1]
          show numF (F 11) (A2 4) k 0 = _
          rw [show F 11 = D 1 from hC.1]
          refine numF_cg k 0 (fun t ht => ?_)
          rw [h4, cpU_lt ht]
          exact stp_cg hI hr t ht
        have i1 : vp_in (nI c) 3000 := vp_in_nI (by omega) (by decide)
        refine And.intro i1 ?_
        have e1 : upd (A2 1) (nI c).toNatClampNeg v = upd (A2 1) c (nI (nx D n k c)) := by rw [cl (by omega), hv]
        refine ⟨aset A2 1 (upd (A2 1) c (nI (nx D n k c))), fset F 63 (nI (n ^ k)), n, k, c, rfl, acset1 e1, hF11, hn2, hn12, hF12, hk8, fun t ht => ?_, fun A3 hS3 hr3 => ?_⟩
        · show A2 3 t = _
          rw [hS2 3 rfl]
          exact hr t ht
        · have hS4 : sm [1, 3, 4, 8, 9, 10, 11, 12, 13, 14, 15, 28, 29] A3 A := sm_tr hS (sm_tr (sm_w hS2 rfl) (sm_tr (sm_aset (q := 1) rfl) (sm_w hS3 rfl)))
          refine ⟨n ^ k - (c + 1), by omega, rfl, Or.inr ⟨rfl, h3, c + 1, A3, hlt, rfl, by rw [← nI_1 c]; rfl, rfl, hS4, KV_cg hK2 (fun t ht => ?_), hr3, fun x hx => ?_⟩⟩
          · have e : A3 (8 + t) = aset A2 1 (upd (A2 1) c (nI (nx D n k c))) (8 + t) := hS3 (8 + t) (by rcases h8 (show t < 8 by omega) with rfl | rfl | rfl | rfl | rfl | rfl | rfl | rfl <;> rfl)
            exact e.trans (asN (by omega))
          · rw [hS3 1 rfl]
            show upd (A2 1) c (nI (nx D n k c)) x = _
            by_cases q : x = c
            · rw [q, pk_us]
            · rw [pk_un q, hS2 1 rfl]
              exact hb x (by omega)
