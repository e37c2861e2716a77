/-! ===== the class: counted round, worths ===== -/
def sX1_countedRound : XS := fun as w post => ∃ (A : XA) (F : Nat → Int32) (v : Int64) (n : Nat), as = [.ref 0, .long v] ∧ w = CH A F ∧ F 11 = nI n ∧ 2 ≤ n ∧ n ≤ 12 ∧ post (some (.int (crd (nI n) v))) w
set_option maxRecDepth 10000 in
set_option maxHeartbeats 1000000 in
theorem mX1_countedRound (d : Nat) (hd : 0 ≤ d) : xCT d yX1_countedRound cX1_countedRound 4 (some .int) sX1_countedRound := by
  refine xmet0 (tb := tX1_countedRound) (fl := fX1) (kc := nX1) (gs := g0) (cl := xlk []) 400 (by decide) tX1_countedRound_ok fX1_ok nX1_ok g0_ok xg_nil ?_
  rintro L xs as w Qp ⟨A, F, v, n, rfl, rfl, hn, hn2, hn12, h⟩
  have hr := lrem_i (v := v) (n := n) (by omega) (by omega)
  have hb := tmod_bounds (a := v.toInt) (M := n) (by omega)
  have e32 : (v - v / (nI n).toInt64 * (nI n).toInt64).toInt32.toInt = v.toInt.tmod n := by
    rw [Int64.toInt_toInt32, hr]
    exact Int.bmod_eq_of_le (by omega) (by omega)
  refine ⟨Nat.le_of_ble_eq_true rfl, ?_⟩
  refine And.intro ?_ ?_
  · show ¬ (F 11).toInt64 = 0
    rw [hn]
    intro q
    have q2 : (nI n).toInt64 = (0 : Int32).toInt64 := q
    rw [fa_wide_eq] at q2
    exact nI_ne0 (by omega) (by omega) q2
  · refine And.intro (fun g => ?_) (fun g => ?_)
    · have g : 0 ≤ (v - v / (F 11).toInt64 * (F 11).toInt64).toInt32 := g
      show Qp (some (.int (v - v / (F 11).toInt64 * (F 11).toInt64).toInt32)) (CH A F)
      rw [hn] at g ⊢
      rw [fa_le, e32] at g
      have g : (0 : Int) ≤ v.toInt.tmod n := g
      have e : crd (nI n) v = (v - v / (nI n).toInt64 * (nI n).toInt64).toInt32 := by
        refine cif_f ?_
        rw [fa_lt64, hr]
        intro q
        have q : v.toInt.tmod n < 0 := q
        omega
      rw [e] at h
      exact h
    · have g : ¬ 0 ≤ (v - v / (F 11).toInt64 * (F 11).toInt64).toInt32 := g
      show Qp (some (.int ((v - v / (F 11).toInt64 * (F 11).toInt64).toInt32 + F 11))) (CH A F)
      rw [hn] at g ⊢
      rw [fa_le, e32] at g
      have g : ¬ (0 : Int) ≤ v.toInt.tmod n := g
      have e : crd (nI n) v = (v - v / (nI n).toInt64 * (nI n).toInt64).toInt32 + nI n := by
        refine (cif_t ?_).trans ?_
        · rw [fa_lt64, hr]
          show v.toInt.tmod n < 0
          omega
        · rw [Int64.toInt32_add, Int32.toInt32_toInt64]
      rw [e] at h
      exact h
/-- an array holds a text's parts -/
def LH (p : Nat → Int32) (z : Int32) (ps : List Int32) : Prop := z = nI ps.length ∧ ps.length ≤ 50 ∧ (∀ i (h : i < ps.length), p i = ps[i]) ∧ (∀ t ∈ ps, ptok t) ∧ (ps = [] ∨ ∀ nm, WV nm ps)
theorem LH_z {p : Nat → Int32} {z : Int32} {ps : List Int32} (h : LH p z ps) : z = 0 ↔ ps = [] := by
  obtain ⟨rfl, hl, -⟩ := h
  constructor
  · intro q
    have := nI_inj (b := 0) (by omega) (by omega) q
    exact List.eq_nil_of_length_eq_zero this
  · intro q
    subst q
    rfl
theorem LH_ev {p : Nat → Int32} {z : Int32} {ps : List Int32} (h : LH p z ps) (hn : ¬ ps = []) (nm : Nat → Int32) : evS nm ps [] = [VV nm ps] := (h.2.2.2.2.resolve_left hn) nm []
def sX1_worthOf : XS := fun as w post => ∃ (A : XA) (F : Nat → Int32) (ps : List Int32) (a b : Int32), as = [.ref 0, .int a, .int b] ∧ w = CH A F ∧ LH (A 15) (F 21) ps ∧ ∀ A', (∀ p, p ≠ 16 → p ≠ 17 → A' p = A p) → post (some (.int (clampV (cif (ps = []) a (VV (nms a b 0 0) ps))))) (CH A' F)
theorem clampV_m (v : Int32) : (if (-999 : Int32) < (if v < 999 then v else 999) then (if v < 999 then v else 999) else -999) = clampV v := by
  unfold clampV
  by_cases g : v < 999
  · rw [if_pos g]
    have g2 : ¬ 999 < v := (fa_of_lt g).2.2.1
    by_cases q : v < -999
    · rw [cif_t q, if_neg (fa_of_lt q).2.2.1]
    · rw [cif_f q, cif_f g2]
      by_cases q2 : -999 < v
      · rw [if_pos q2]
      · rw [if_neg q2]
        rcases fa_three v (-999) with q3 | q3 | q3
        · exact absurd q3 q
        · exact q3.symm
        · exact absurd q3 q2
  · rw [if_neg g, if_pos (by decide)]
    have q : ¬ v < -999 := by
      intro q
      exact g (fa_trans q (by decide))
    rw [cif_f q]
    by_cases q2 : 999 < v
    · rw [cif_t q2]
    · rw [cif_f q2]
      rcases fa_three v 999 with q3 | q3 | q3
      · exact absurd q3 g
      · exact q3.symm
      · exact absurd q3 q2
set_option maxRecDepth 10000 in
set_option maxHeartbeats 1000000 in
theorem mX1_worthOf (d : Nat) (hd : 2 ≤ d) : xCT d yX1_worthOf cX1_worthOf 4 (some .int) sX1_worthOf := by
  obtain ⟨d, rfl⟩ : ∃ e, d = e + 1 := ⟨d - 1, by omega⟩
  refine xmet0 (tb := tX1_worthOf) (fl := fX1) (kc := nX1) (gs := g0) (cl := xlk [(78, true, 1, xrcv 2 (xfrE sX2_isMissing)), (82, true, 5, xrcv 2 (xfrE sX2_valueOf)), (72, false, 2, xMax), (86, false, 2, xMin)]) 400 (by decide) tX1_worthOf_ok fX1_ok nX1_ok g0_ok (xg_cons (k_X1_78 (xCT_frE (mX2_isMissing d (by omega)))) (xg_cons (k_X1_82 (xCT_frE (mX2_valueOf d (by omega)))) (xg_cons (k_X1_72_max (xrm_ok d)) (xg_cons (k_X1_86_min (xrm_ok d)) xg_nil)))) ?_
  rintro L xs as w Qp ⟨A, F, ps, a, b, rfl, rfl, hL, h⟩
  refine ⟨Nat.le_of_ble_eq_true rfl, ?_⟩
  refine ⟨[14, 15, 16, 17], [.ref 0], LW (A 15) (A 16) (A 17) (F 21), rfl, rfl, rfl, A 15, A 16, A 17, F 21, rfl, rfl, fun g => ?_, fun g => ?_⟩
  · have hps := (LH_z hL).mp g
    refine br_f xc_eq1 ?_
    have hq := h A (fun _ _ _ => rfl)
    rw [cif_t hps, ← clampV_m] at hq
    exact hq
  · have hps : ¬ ps = [] := fun q => g ((LH_z hL).mpr q)
    refine br_t xc_eq0 ?_
    refine ⟨[14, 15, 16, 17], [.ref 0, .int a, .int b, .int 0, .int 0], LW (A 15) (A 16) (A 17) (nI ps.length), rfl, by rw [← hL.1]; rfl, rfl, A 15, A 16, A 17, ps, a, b, 0, 0, VV (nms a b 0 0) ps, rfl, rfl, hL.2.1, hL.2.2.1, hL.2.2.2.1, LH_ev hL hps _, fun s' n' => ?_⟩
    have hq := h (aset (aset A 16 s') 17 n') (fun p p1 p2 => (aset_n p2).trans (aset_n p1))
    rw [cif_f hps, ← clampV_m] at hq
    have e := hL.1
    rw [← e]
    exact hq
