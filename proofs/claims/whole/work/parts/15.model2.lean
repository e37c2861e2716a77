/-! ===== the reference: calls without a bar ===== -/
theorem ge_n {x : Int32} {k s : Nat} (hx : x = nI k) (hk : k < 2 ^ 31) (hs : s < 2 ^ 31) (g : xcond .ge (nI s) x) : k ≤ s := by
  have g : x ≤ nI s := g
  rw [hx] at g
  exact (nI_leI hk hs).mp g
theorem nge_n {x : Int32} {k s : Nat} (hx : x = nI k) (hk : k < 2 ^ 31) (hs : s < 2 ^ 31) (g : ¬ xcond .ge (nI s) x) : s < k := by
  have g : ¬ x ≤ nI s := g
  rw [hx, nI_leI hk hs] at g
  omega
theorem cl {i : Nat} (h : i < 2 ^ 31) : (nI i).toNatClampNeg = i := nI_clamp h
def sX10_notes : XS := fun as w post => ∃ (A : XA) (F : Nat → Int32) (v : Int32) (n k : Nat), as = [.ref 0, .int v] ∧ w = LM A F ∧ DI (A 1) n k ∧ sQ (qnotes v A F) post
set_option maxRecDepth 10000 in
set_option maxHeartbeats 1000000 in
theorem mX10_notes (d : Nat) (hd : 1 ≤ d) : xCT d yX10_notes cX10_notes 3 (some .int) sX10_notes := by
  obtain ⟨d, rfl⟩ : ∃ e, d = e + 1 := ⟨d - 1, by omega⟩
  refine xmet (tb := tX10_notes) (fl := fX10) (kc := nX10) (gs := g0) (cl := xlk [(65, false, 3, sX10_in), (128, true, 2, xrcv 10 (sX10_finds)), (149, true, 3, xrcv 10 (sX10_its))]) (by decide) tX10_notes_ok fX10_ok nX10_ok g0_ok (xg_cons (k_X10_65 (mX10_in d (by omega))) (xg_cons (k_X10_128 (mX10_finds d (by omega))) (xg_cons (k_X10_149 (mX10_its d (by omega))) xg_nil))) ?_
  rintro L xs as w Qp ⟨A, F, v, n, k, rfl, rfl, ⟨hn, hn2, hn12, hk, hk8, -⟩, h⟩
  have hK : (A 1 2).toNatClampNeg = k := by rw [hk]; exact nI_clamp (by omega)
  refine ⟨Nat.le_of_ble_eq_true rfl, 400, xlk [(22, 3)], fun m pc ls st w => pc = 22 ∧ ∃ s, s ≤ k ∧ m = k - s ∧ (2 ≤ v ∧ v ≤ 12) ∧ (∀ i, i < s → ¬ (v ≤ A 1 (8 + 8 * i + 2) ∨ v ≤ A 1 (8 + 8 * i + 5))) ∧ ls = [(0, .ref 0), (1, .int v), (2, .int (nI s))] ∧ st = [] ∧ w = LM A F, ?_, ?_⟩
  · refine ⟨v, 2, 12, rfl, fun g1 g2 => ?_, fun g => ?_⟩
    · refine br_t xc_ne1 ?_
      exact ⟨k, rfl, 0, Nat.zero_le _, rfl, ⟨g1, g2⟩, fun i hi => absurd hi (by omega), rfl, rfl, rfl⟩
    · refine br_f xc_ne0 ?_
      refine ⟨A, F, 1, rfl, rfl, by decide, ?_⟩
      exact sQ_e h (cif_f' g rfl)
  · rintro m pc m9 ls st w hc ⟨rfl, s, hs, rfl, hv, hno, rfl, rfl, rfl⟩
    refine And.intro (vl 2 250 rfl rfl) ?_
    refine And.intro (fun g => ?_) (fun g => ?_)
    · have hks := ge_n hk (by omega) (by omega) g
      refine And.intro (vl 1 250 rfl rfl) (And.intro (vl 1 250 rfl rfl) ?_)
      refine sQ_e h (cif_t' hv (cif_f' ?_ rfl))
      rintro ⟨i, hi, hh⟩
      rw [hK] at hi
      exact hno i (by omega) hh
    · have hlt := nge_n hk (by omega) (by omega) g
      refine ⟨A, F, s, 2, rfl, rfl, by omega, ?_⟩
      refine And.intro (fun g2 => ?_) (fun g2 => ?_)
      · refine ⟨A, F, 3, rfl, rfl, by decide, ?_⟩
        exact sQ_e h (cif_t' hv (cif_t' ⟨s, by rw [hK]; exact hlt, Or.inl g2⟩ rfl))
      · refine ⟨A, F, s, 5, rfl, rfl, by omega, ?_⟩
        refine And.intro (fun g3 => ?_) (fun g3 => ?_)
        · refine ⟨k - (s + 1), by omega, rfl, s + 1, hlt, rfl, hv, fun i hi => ?_, by rw [← nI_1]; rfl, rfl, rfl⟩
          rcases Nat.lt_or_ge i s with q | q
          · exact hno i q
          · rw [show i = s by omega]
            rintro (q | q)
            · exact g2 q
            · exact (fa_of_lt g3).2.1 q
        · refine ⟨A, F, 3, rfl, rfl, by decide, ?_⟩
          exact sQ_e h (cif_t' hv (cif_t' ⟨s, by rw [hK]; exact hlt, Or.inr (fa_of_nlt g3)⟩ rfl))
def sX10_hearRing : XS := fun as w post => ∃ (A : XA) (F : Nat → Int32) (k : Nat), as = [.ref 0] ∧ w = LM A F ∧ A 1 2 = nI k ∧ k ≤ 8 ∧ post none (LM (aset A 1 (hearU (A 1) k k)) F)
theorem ringL {s k : Nat} (hk : k ≤ 8) (hs : s < k) : (nI s + nI k - 1) - (nI s + nI k - 1) / nI k * nI k = nI ((s + k - 1) % k) := by
  rw [show (1 : Int32) = nI 1 from rfl, nI_add, pk_sub (by omega), pk_rem (by omega) (by omega) (by omega)]
theorem ringS {s k : Nat} (hk : k ≤ 8) (hs : s < k) : (nI s + 2 * nI k - 2) - (nI s + 2 * nI k - 2) / nI k * nI k = nI ((s + 2 * k - 2) % k) := by
  rw [show (2 : Int32) = nI 2 from rfl, pk_mul, nI_add, pk_sub (by omega), pk_rem (by omega) (by omega) (by omega)]
set_option maxRecDepth 10000 in
set_option maxHeartbeats 1000000 in
theorem mX10_hearRing (d : Nat) (hd : 1 ≤ d) : xCT d yX10_hearRing cX10_hearRing 3 none sX10_hearRing := by
  obtain ⟨d, rfl⟩ : ∃ e, d = e + 1 := ⟨d - 1, by omega⟩
  refine xmet (tb := tX10_hearRing) (fl := fX10) (kc := nX10) (gs := g0) (cl := xlk [(149, true, 3, xrcv 10 (sX10_its)), (152, true, 4, xrcv 10 (sX10_becomes))]) (by decide) tX10_hearRing_ok fX10_ok nX10_ok g0_ok (xg_cons (k_X10_149 (mX10_its d (by omega))) (xg_cons (k_X10_152 (mX10_becomes d (by omega))) xg_nil)) ?_
  rintro L xs as w Qp ⟨A, F, k, rfl, rfl, hk, hk8, h⟩
  refine ⟨Nat.le_of_ble_eq_true rfl, 400, xlk [(9, 3)], fun m pc ls st w => pc = 9 ∧ ∃ s, s ≤ k ∧ m = k - s ∧ ls = [(0, .ref 0), (1, .int (nI k)), (2, .int (nI s))] ∧ st = [] ∧ w = LM (aset A 1 (hearU (A 1) k s)) F, ?_, ?_⟩
  · refine And.intro (vl 2 250 rfl rfl) ?_
    refine ⟨k, rfl, 0, Nat.zero_le _, rfl, ?_, rfl, ?_⟩
    · rw [← hk]; rfl
    · rw [hearU_0, aset_eta]
  · rintro m pc m9 ls st w hc ⟨rfl, s, hs, rfl, rfl, rfl, rfl⟩
    refine And.intro (fun g => ?_) (fun g => ?_)
    · have hks := ge_n rfl (by omega) (by omega) g
      rw [show s = k by omega]
      exact h
    · have hlt := nge_n rfl (by omega) (by omega) g
      refine ⟨_, F, s, 6, rfl, rfl, by omega, ?_⟩
      refine And.intro (fun g2 => ?_) (fun g2 => ?_)
      · have g2 : ¬ hearU (A 1) k s (8 + 8 * s + 6) = 0 := g2
        rw [hearU_told] at g2
        refine ⟨k - (s + 1), by omega, rfl, s + 1, hlt, rfl, by rw [← nI_1]; rfl, rfl, ?_⟩
        rw [hearU_n g2]
      · have g2 : ¬ ¬ hearU (A 1) k s (8 + 8 * s + 6) = 0 := g2
        rw [hearU_told] at g2
        have g2 := Classical.not_not.mp g2
        have hk0 : ¬ nI k = 0 := nI_ne0 (by omega) (by omega)
        refine And.intro hk0 ?_
        refine ⟨_, F, s, 3, _, rfl, rfl, by omega, ?_⟩
        refine And.intro hk0 ?_
        refine ⟨_, F, s, 4, _, rfl, rfl, by omega, ?_⟩
        refine ⟨k - (s + 1), by omega, rfl, s + 1, hlt, rfl, by rw [← nI_1]; rfl, rfl, ?_⟩
        show LM (aset (aset (aset A 1 (hearU (A 1) k s)) 1 (upd (hearU (A 1) k s) (8 + 8 * s + 3) ((nI s + nI k - 1) - (nI s + nI k - 1) / nI k * nI k))) 1 (upd (upd (hearU (A 1) k s) (8 + 8 * s + 3) ((nI s + nI k - 1) - (nI s + nI k - 1) / nI k * nI k)) (8 + 8 * s + 4) ((nI s + 2 * nI k - 2) - (nI s + 2 * nI k - 2) / nI k * nI k))) F = _
        rw [aset_aset, aset_aset, ringL hk8 hlt, ringS hk8 hlt, hearU_y g2]
