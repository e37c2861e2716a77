/-! ===== the reference: isTune, tune ===== -/
def sX10_isTune : XS := fun as w post => ∃ (A : XA) (F : Nat → Int32) (h q s z : Nat), as = [.ref 0, .int (nI h), .int (nI q), .int (nI s)] ∧ w = LM A F ∧ h < 4 ∧ q ≤ 100 ∧ s < 8 ∧ z ≤ 40 ∧ A 16 h = nI z ∧ ((∀ j, j < z → A 13 (8 * (q + j) + s) = A 17 (40 * h + j)) → post (some (.int 1)) (LM A F)) ∧ (¬ (∀ j, j < z → A 13 (8 * (q + j) + s) = A 17 (40 * h + j)) → post (some (.int 0)) (LM A F))
theorem ix8 (q j s : Nat) : (8 : Int32) * (nI q + nI j) + nI s = nI (8 * (q + j) + s) := by rw [show (8 : Int32) = nI 8 from rfl, nI_add, pk_mul, nI_add]
set_option maxRecDepth 10000 in
set_option maxHeartbeats 1000000 in
theorem mX10_isTune (d : Nat) (hd : 0 ≤ d) : xCT d yX10_isTune cX10_isTune 5 (some .boolean) sX10_isTune := by
  refine xmet (tb := tX10_isTune) (fl := fX10) (kc := nX10) (gs := g0) (cl := xlk []) (by decide) tX10_isTune_ok fX10_ok nX10_ok g0_ok xg_nil ?_
  rintro L xs as w Qp ⟨A, F, h, q, s, z, rfl, rfl, hh, hq, hs, hz, e16, hy, hno⟩
  have e16' : A 16 (nI h).toNatClampNeg = nI z := by rw [cl (by omega)]; exact e16
  refine ⟨Nat.le_of_ble_eq_true rfl, 400, xlk [(3, 5)], fun m pc ls st w => pc = 3 ∧ st = [] ∧ ∃ j, j ≤ z ∧ m = z - j ∧ ls = [(0, .ref 0), (1, .int (nI h)), (2, .int (nI q)), (3, .int (nI s)), (4, .int (nI j))] ∧ w = LM A F ∧ ∀ t, t < j → A 13 (8 * (q + t) + s) = A 17 (40 * h + t), ?_, ?_⟩
  · exact ⟨z, rfl, rfl, 0, Nat.zero_le _, rfl, rfl, rfl, fun t ht => absurd ht (Nat.not_lt_zero _)⟩
  · rintro m pc m9 ls st w hc ⟨rfl, rfl, j, hj, rfl, rfl, rfl, ha⟩
    refine And.intro (vp_in_nI (by omega) (by decide)) ?_
    refine And.intro (fun g => ?_) (fun g => ?_)
    · have := ge_n e16' (by omega) (by omega) g
      exact ⟨rfl, hy (fun t ht => ha t (by omega))⟩
    · have hlt := nge_n e16' (by omega) (by omega) g
      have i1 : vp_in ((8 : Int32) * (nI q + nI j) + nI s) 1200 := by rw [ix8]; exact vp_in_nI (by omega) (by decide)
      have i2 : vp_in ((40 : Int32) * nI h + nI j) 160 := by rw [ix40]; exact vp_in_nI (by omega) (by decide)
      refine And.intro i1 (And.intro i2 ?_)
      have ea : A 13 ((8 : Int32) * (nI q + nI j) + nI s).toNatClampNeg = A 13 (8 * (q + j) + s) := by rw [ix8, cl (by omega)]
      have eb : A 17 ((40 : Int32) * nI h + nI j).toNatClampNeg = A 17 (40 * h + j) := by rw [ix40, cl (by omega)]
      refine And.intro (fun g2 => ?_) (fun g2 => ?_)
      · have g2 : A 13 ((8 : Int32) * (nI q + nI j) + nI s).toNatClampNeg = A 17 ((40 : Int32) * nI h + nI j).toNatClampNeg := g2
        rw [ea, eb] at g2
        refine ⟨z - (j + 1), by omega, rfl, rfl, j + 1, hlt, rfl, by rw [← nI_1]; rfl, rfl, fun t ht => ?_⟩
        by_cases e : t = j
        · subst e
          exact g2
        · exact ha t (by omega)
      · have g2 : ¬ A 13 ((8 : Int32) * (nI q + nI j) + nI s).toNatClampNeg = A 17 ((40 : Int32) * nI h + nI j).toNatClampNeg := g2
        rw [ea, eb] at g2
        exact ⟨rfl, hno (fun q2 => g2 (q2 j hlt))⟩
/-- the tune of sheet h goes by from bar q on, with singer s -/
def TU (A : XA) (h z k q s : Nat) : Prop := ∀ j, j < z → itr (A 1) k (q + j) (nw (A 1)) s = A 17 (40 * h + j)
noncomputable def tuL (A : XA) (h : Nat) : Nat := lead (fun c => ¬ TU A h (A 16 h).toNatClampNeg (kN A) (c / kN A) (c % kN A)) (kN A * 101)
noncomputable def qtune (s : Int32) (A : XA) (F : Nat → Int32) : XR := cif (isH s) (cif (A 15 s.toNatClampNeg = 0 ∨ A 16 s.toNatClampNeg = 0) (eR 2 A F) (cif (tuL A s.toNatClampNeg = kN A * 101) (eR 2 A F) (10 * nI (tuL A s.toNatClampNeg / kN A) + nI (tuL A s.toNatClampNeg % kN A), A, F))) (eR 1 A F)
def sX10_tune : XS := fun as w post => ∃ (A : XA) (F : Nat → Int32) (s : Int32) (n k : Nat), as = [.ref 0, .int s] ∧ w = LM A F ∧ DI (A 1) n k ∧ TXO (A 1) 0 ∧ SI A ∧ sQ (qtune s A F) post
def TZ (A : XA) (F : Nat → Int32) (A' : XA) (F' : Nat → Int32) : Prop := (∀ p, p ≠ 4 → p ≠ 5 → p ≠ 7 → p ≠ 13 → A' p = A p) ∧ FW F F'
theorem TZ.per {A A' : XA} {F F' : Nat → Int32} (h : TZ A F A' F') : per A F A' F' := ⟨h.1 1 (by omega) (by omega) (by omega) (by omega), h.1 2 (by omega) (by omega) (by omega) (by omega), h.1 3 (by omega) (by omega) (by omega) (by omega), h.1 14 (by omega) (by omega) (by omega) (by omega), h.1 15 (by omega) (by omega) (by omega) (by omega), h.1 16 (by omega) (by omega) (by omega) (by omega), h.1 17 (by omega) (by omega) (by omega) (by omega), h.2 2 (by omega), h.2 24 (by omega)⟩
theorem lset13 {F : Nat → Int32} (B : XA) (f f' : Nat → Int32) (h2 : f = f') : List.set (LM B F) 13 (.inl (0, 1200, .inl f)) = LM (aset B 13 f') F := by
  subst h2
  rfl
set_option maxRecDepth 10000 in
set_option maxHeartbeats 1000000 in
theorem mX10_tune (d : Nat) (hd : 64 ≤ d) : xCT d yX10_tune cX10_tune 4 (some .int) sX10_tune := by
  obtain ⟨d, rfl⟩ : ∃ e, d = e + 1 := ⟨d - 1, by omega⟩
  refine xmet (tb := tX10_tune) (fl := fX10) (kc := nX10) (gs := g0) (cl := xlk [(175, false, 1, sX10_isSheet), (128, true, 2, xrcv 10 (sX10_finds)), (185, true, 2, xrcv 10 (sX10_begins)), (178, true, 2, xrcv 10 (sX10_goesBy)), (256, true, 4, xrcv 10 (sX10_isTune))]) (by decide) tX10_tune_ok fX10_ok nX10_ok g0_ok (xg_cons (k_X10_175 (mX10_isSheet d (by omega))) (xg_cons (k_X10_128 (mX10_finds d (by omega))) (xg_cons (k_X10_185 (mX10_begins d (by omega))) (xg_cons (k_X10_178 (mX10_goesBy d (by omega))) (xg_cons (k_X10_256 (mX10_isTune d (by omega))) xg_nil))))) ?_
  rintro L xs as w Qp ⟨A, F, s0, n, k, rfl, rfl, hI, hT, hS, h⟩
  obtain ⟨hn, hn2, hn12, hk, hk8, -⟩ := id hI
  obtain ⟨eN, eK⟩ := DI_nk hI
  have keep : ∀ {A' : XA} {F' : Nat → Int32}, TZ A F A' F' → A' 1 = A 1 ∧ A' 16 = A 16 ∧ A' 17 = A 17 := fun hB => ⟨hB.1 1 (by omega) (by omega) (by omega) (by omega), hB.1 16 (by omega) (by omega) (by omega) (by omega), hB.1 17 (by omega) (by omega) (by omega) (by omega)⟩
  refine ⟨Nat.le_of_ble_eq_true rfl, 400, xlk [(47, 3), (62, 4), (111, 3), (119, 4)], fun m pc ls st w => st = [] ∧ ∃ i z A' F', i < 4 ∧ s0 = nI i ∧ z ≤ 40 ∧ A 16 i = nI z ∧ ¬ (A 15 i = 0 ∨ A 16 i = 0) ∧ w = LM A' F' ∧ TZ A F A' F' ∧ (
      (pc = 47 ∧ ∃ c, c ≤ 101 + z ∧ m = 9000 - 20 * c ∧ ls = [(0, .ref 0), (1, .int s0), (2, .int (nI c))] ∧ (∀ t, t < k → A' 5 t = itr (A 1) k c (nw (A 1)) t) ∧ (∀ j t, j < c → t < k → A' 13 (8 * j + t) = itr (A 1) k j (nw (A 1)) t))
    ∨ (pc = 62 ∧ ∃ c s, c < 101 + z ∧ s ≤ k ∧ m = 8999 - 20 * c - s ∧ ls = [(0, .ref 0), (1, .int s0), (2, .int (nI c)), (3, .int (nI s))] ∧ (∀ t, t < k → A' 5 t = itr (A 1) k c (nw (A 1)) t) ∧ (∀ j t, j < c → t < k → A' 13 (8 * j + t) = itr (A 1) k j (nw (A 1)) t) ∧ (∀ t, t < s → A' 13 (8 * c + t) = itr (A 1) k c (nw (A 1)) t))
    ∨ (pc = 111 ∧ ∃ q, q ≤ 101 ∧ m = 4000 - 20 * q ∧ ls = [(0, .ref 0), (1, .int s0), (2, .int (nI q))] ∧ (∀ j t, j < 101 + z → t < k → A' 13 (8 * j + t) = itr (A 1) k j (nw (A 1)) t) ∧ lead (fun c => ¬ TU A i z k (c / k) (c % k)) (k * q) = k * q)
    ∨ (pc = 119 ∧ ∃ q s, q ≤ 100 ∧ s ≤ k ∧ m = 3999 - 20 * q - s ∧ ls = [(0, .ref 0), (1, .int s0), (2, .int (nI q)), (3, .int (nI s))] ∧ (∀ j t, j < 101 + z → t < k → A' 13 (8 * j + t) = itr (A 1) k j (nw (A 1)) t) ∧ lead (fun c => ¬ TU A i z k (c / k) (c % k)) (k * q + s) = k * q + s)), ?_, ?_⟩
  · refine ⟨s0, rfl, fun i hi es => ?_, fun g => ?_⟩
    · subst es
      obtain ⟨z, hz, ez⟩ := hS i hi
      have e16 : A 16 (nI i).toNatClampNeg = A 16 i := by rw [cl (by omega)]
      have e15 : A 15 (nI i).toNatClampNeg = A 15 i := by rw [cl (by omega)]
      refine br_t xc_ne1 ?_
      refine And.intro (vp_in_nI (by omega) (by decide)) ?_
      refine And.intro (fun g => ?_) (fun g => ?_)
      · have g : A 15 (nI i).toNatClampNeg = 0 := g
        refine ⟨A, F, 2, rfl, rfl, by decide, ?_⟩
        exact sQ_e h (cif_t' (isH_i hi) (cif_t' (Or.inl g) rfl))
      · have g : ¬ A 15 (nI i).toNatClampNeg = 0 := g
        refine And.intro (vp_in_nI (by omega) (by decide)) ?_
        refine And.intro (fun g2 => ?_) (fun g2 => ?_)
        · have g2 : ¬ A 16 (nI i).toNatClampNeg = 0 := g2
          refine ⟨5, by omega, A, F, k, rfl, rfl, hk, hk8, ?_⟩
          refine ⟨9000, rfl, i, z, _, F, hi, rfl, by omega, ez, ?_, rfl, ⟨fun p _ p5 _ _ => aset_n p5, fun _ _ => rfl⟩, Or.inl ⟨rfl, 0, Nat.zero_le _, rfl, rfl, nts_nw _, fun j t hj => absurd hj (Nat.not_lt_zero _)⟩⟩
          rw [e15] at g
          rw [e16] at g2
          exact fun q => q.elim g g2
        · have g2 : A 16 (nI i).toNatClampNeg = 0 := Classical.byContradiction g2
          refine ⟨A, F, 2, rfl, rfl, by decide, ?_⟩
          exact sQ_e h (cif_t' (isH_i hi) (cif_t' (Or.inr g2) rfl))
    · refine br_f xc_ne0 ?_
      refine ⟨A, F, 1, rfl, rfl, by decide, ?_⟩
      exact sQ_e h (cif_f' (isH_n g) rfl)
  · rintro m pc m9 ls st w hc ⟨rfl, i, z, A', F', hi, rfl, hz, ez, hnz, rfl, hB, ⟨rfl, c, hcz, rfl, rfl, a5, a13⟩ | ⟨rfl, c, s, hcz, hs, rfl, rfl, a5, a13, a13'⟩ | ⟨rfl, q, hq, rfl, rfl, a13, hL⟩ | ⟨rfl, q, s, hq, hs, rfl, rfl, a13, hL⟩⟩
    · obtain ⟨e1, e16, e17⟩ := keep hB
      have ez' : A' 16 (nI i).toNatClampNeg = nI z := by rw [cl (by omega), e16]; exact ez
      have ezz : (101 : Int32) + A' 16 (nI i).toNatClampNeg = nI (101 + z) := by rw [ez', show (101 : Int32) = nI 101 from rfl, nI_add]
      refine And.intro (vp_in_nI (by omega) (by decide)) ?_
      refine And.intro (fun g => ?_) (fun g => ?_)
      · have := ge_n ezz (by omega) (by omega) g
        exact ⟨4000, by omega, rfl, i, z, A', F', hi, rfl, hz, ez, hnz, rfl, hB, Or.inr (Or.inr (Or.inl ⟨rfl, 0, Nat.zero_le _, rfl, rfl, fun j t hj ht => a13 j t (by omega) ht, rfl⟩))⟩
      · have hlt := nge_n ezz (by omega) (by omega) g
        exact ⟨8999 - 20 * c, by omega, rfl, i, z, A', F', hi, rfl, hz, ez, hnz, rfl, hB, Or.inr (Or.inl ⟨rfl, c, 0, hlt, Nat.zero_le _, rfl, rfl, a5, a13, fun t ht => absurd ht (Nat.not_lt_zero _)⟩)⟩
    · obtain ⟨e1, e16, e17⟩ := keep hB
      have hk' : A' 1 2 = nI k := by rw [e1]; exact hk
      refine And.intro (vl 2 250 rfl rfl) ?_
      refine And.intro (fun g => ?_) (fun g => ?_)
      · have := ge_n hk' (by omega) (by omega) g
        refine ⟨5, by omega, A', F', n, k, rfl, rfl, by rw [e1]; exact hI, by rw [e1]; exact hT, fun A2 F2 h2 hR2 => ?_⟩
        have e213 : A2 13 = A' 13 := hR2.1 13 (by omega) (by omega) (by omega)
        refine ⟨9000 - 20 * (c + 1), by omega, rfl, i, z, A2, F2, hi, rfl, hz, ez, hnz, rfl, ⟨fun p p4 p5 p7 p13 => (hR2.1 p p4 p7 p5).trans (hB.1 p p4 p5 p7 p13), fun q hq => (hR2.2 q hq).trans (hB.2 q hq)⟩, Or.inl ⟨rfl, c + 1, hcz, rfl, by rw [← nI_1]; rfl, fun t ht => ?_, fun j t hj ht => ?_⟩⟩
        · rw [h2, e1]
          exact stp_cg hI a5 t ht
        · rw [e213]
          by_cases e : j = c
          · subst e
            exact a13' t (by omega)
          · exact a13 j t (by omega) ht
      · have hlt := nge_n hk' (by omega) (by omega) g
        have ei : (8 : Int32) * nI c + nI s = nI (8 * c + s) := by rw [show (8 : Int32) = nI 8 from rfl, pk_mul, nI_add]
        refine And.intro (vp_in_nI (by omega) (by decide)) ?_
        refine And.intro (by show vp_in ((8 : Int32) * nI c + nI s) 1200; rw [ei]; exact vp_in_nI (by omega) (by decide)) ?_
        have eu : upd (A' 13) ((8 : Int32) * nI c + nI s).toNatClampNeg (A' 5 (nI s).toNatClampNeg) = upd (A' 13) (8 * c + s) (itr (A 1) k c (nw (A 1)) s) := by rw [ei, cl (by omega), cl (by omega), a5 s hlt]
        refine ⟨8999 - 20 * c - (s + 1), by omega, rfl, i, z, _, F', hi, rfl, hz, ez, hnz, lset13 _ _ _ eu, ⟨fun p p4 p5 p7 p13 => (aset_n p13).trans (hB.1 p p4 p5 p7 p13), hB.2⟩, Or.inr (Or.inl ⟨rfl, c, s + 1, hcz, hlt, rfl, by rw [← nI_1]; rfl, a5, fun j t hj ht => ?_, fun t ht => ?_⟩)⟩
        · rw [aset_s, pk_un (by omega)]
          exact a13 j t hj ht
        · rw [aset_s]
          by_cases e : t = s
          · subst e
            rw [pk_us]
          · rw [pk_un (by omega)]
            exact a13' t (by omega)
    · have eT : tuL A i = lead (fun c => ¬ TU A i z k (c / k) (c % k)) (k * 101) := by
        unfold tuL
        rw [eK, ez, cl (by omega)]
      refine And.intro (fun g => ?_) (fun g => ?_)
      · have g : nI 100 < nI q := g
        rw [fa_lt, nI_toInt (by omega), nI_toInt (by omega)] at g
        have eq : q = 101 := by omega
        subst eq
        refine ⟨A', F', 2, rfl, rfl, by decide, ?_⟩
        unfold qtune at h
        rw [cif_t (isH_i hi), cl (by omega), cif_f hnz, eT, eK, cif_t hL] at h
        exact sQ_p h rfl (per_er hB.per 2)
      · have g : ¬ nI 100 < nI q := g
        rw [fa_lt, nI_toInt (by omega), nI_toInt (by omega)] at g
        exact ⟨3999 - 20 * q, by omega, rfl, i, z, A', F', hi, rfl, hz, ez, hnz, rfl, hB, Or.inr (Or.inr (Or.inr ⟨rfl, q, 0, by omega, Nat.zero_le _, rfl, rfl, a13, hL⟩))⟩
    · obtain ⟨e1, e16, e17⟩ := keep hB
      have hk' : A' 1 2 = nI k := by rw [e1]; exact hk
      refine And.intro (vl 2 250 rfl rfl) ?_
      refine And.intro (fun g => ?_) (fun g => ?_)
      · have := ge_n hk' (by omega) (by omega) g
        have es : s = k := by omega
        subst es
        exact ⟨4000 - 20 * (q + 1), by omega, rfl, i, z, A', F', hi, rfl, hz, ez, hnz, rfl, hB, Or.inr (Or.inr (Or.inl ⟨rfl, q + 1, by omega, rfl, by rw [← nI_1]; rfl, a13, hL⟩))⟩
      · have hlt := nge_n hk' (by omega) (by omega) g
        have hTU : (∀ j, j < z → A' 13 (8 * (q + j) + s) = A' 17 (40 * i + j)) ↔ TU A i z k q s := by
          unfold TU
          rw [e17]
          constructor
          · intro H j hj
            rw [← a13 (q + j) s (by omega) hlt]
            exact H j hj
          · intro H j hj
            rw [a13 (q + j) s (by omega) hlt]
            exact H j hj
        have ed : (k * q + s) / k = q := by rw [Nat.mul_add_div (by omega), Nat.div_eq_of_lt hlt, Nat.add_zero]
        have em : (k * q + s) % k = s := by rw [Nat.mul_add_mod, Nat.mod_eq_of_lt hlt]
        refine ⟨A', F', i, q, s, z, rfl, rfl, hi, hq, by omega, hz, by rw [e16]; exact ez, fun hy => ?_, fun hy => ?_⟩
        · rw [hTU] at hy
          refine br_f xc_eq1 ?_
          have hs2 := lead_stop hL (p := fun c => ¬ TU A i z k (c / k) (c % k)) (fun g => g (by rw [ed, em]; exact hy)) (k * 101) (by
            have : k * q + s < k * (q + 1) := by rw [Nat.mul_succ]; omega
            have h2 : k * (q + 1) ≤ k * 101 := Nat.mul_le_mul_left _ (by omega)
            omega)
          have eT : tuL A i = k * q + s := by
            unfold tuL
            rw [eK, ez, cl (by omega)]
            exact hs2
          have hne : ¬ k * q + s = k * 101 := by
            have : k * q + s < k * (q + 1) := by rw [Nat.mul_succ]; omega
            have h2 : k * (q + 1) ≤ k * 101 := Nat.mul_le_mul_left _ (by omega)
            omega
          unfold qtune at h
          rw [cif_t (isH_i hi), cl (by omega), cif_f hnz, eT, eK, cif_f hne, ed, em] at h
          exact sQ_p h rfl hB.per
        · rw [hTU] at hy
          refine br_t xc_eq0 ?_
          refine ⟨3999 - 20 * q - (s + 1), by omega, rfl, i, z, A', F', hi, rfl, hz, ez, hnz, rfl, hB, Or.inr (Or.inr (Or.inr ⟨rfl, q, s + 1, hq, hlt, rfl, by rw [← nI_1]; rfl, a13, ?_⟩))⟩
          refine lead_go hL (p := fun c => ¬ TU A i z k (c / k) (c % k)) ?_
          show ¬ TU A i z k ((k * q + s) / k) ((k * q + s) % k)
          rw [ed, em]
          exact hy
