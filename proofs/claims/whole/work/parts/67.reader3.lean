/-! ===== the class: the reader's levels, further ===== -/
set_option maxRecDepth 10000 in
set_option maxHeartbeats 1000000 in
theorem pX3_readSum (e d : Nat) (hB : xCT d yX3_readProduct cX3_readProduct 5 (some .boolean) (sRd 4 e)) : xCT (d + 1) yX3_readSum cX3_readSum 5 (some .boolean) (sRd 3 e) := by
  refine xmet (tb := tX3_readSum) (fl := fX3) (kc := nX3) (gs := g0) (cl := xlk [(67, true, 2, xrcv 3 (sRd 4 e)), (53, true, 1, xrcv 3 (sX3_sign)), (57, true, 2, xrcv 2 (sX2_add_RX))]) (by decide) tX3_readSum_ok fX3_ok nX3_ok g0_ok (xg_cons (k_X3_67 hB) (xg_cons (k_X3_53 (mX3_sign d (by omega))) (xg_cons (k_X3_57 (mX2_add_RX d (by omega))) xg_nil))) ?_
  rintro L xs as w Qp ⟨u, A, F, b, n, p, z, o, rfl, rfl, hK, ho, he, h⟩
  have hn50 : n ≤ 50 := hK.2.1
  have hpn : p ≤ n := hK.2.2.2.1
  have h := h _ rfl
  generalize eR : PR b n (uN u) 3 p o = R at h
  refine ⟨Nat.le_of_ble_eq_true rfl, 400, xlk [(14, 5), (37, 5)], fun m pc ls st w => st = [] ∧ ∃ (i : Nat) (g v : Int32) (A' : XA) (F' : Nat → Int32), w = RX u A' F' ∧ i ≤ 50 ∧ ls = [(0, .ref 0), (1, .int (nI o)), (2, .int g), (3, .int v), (4, .int (nI i))] ∧ ((pc = 14 ∧ g = 1 ∧ ∃ p1 acc, i ≤ p1 ∧ p1 ≤ n ∧ v = hr b n p1 ∧ m = 2 * (n - p1) + 2 ∧ GD A F z A' F' p1 acc ∧ R = cat2 (true, p1, acc) (fun q => PR b n (uN u) 8 q o)) ∨ (pc = 37 ∧ g = 1 ∧ i < 50 ∧ ∃ p1 acc, i ≤ p1 ∧ p1 < n ∧ v = hr b n p1 ∧ (hr b n p1 = 43 ∨ hr b n p1 = 45) ∧ m = 2 * (n - p1) + 1 ∧ GD A F z A' F' p1 acc ∧ R = cat2 (true, p1, acc) (fun q => PR b n (uN u) 8 q o)) ∨ (pc = 14 ∧ g = 0 ∧ m = 0 ∧ BD A F A' F' R.2.1 ∧ R.1 = false)), ?_, ?_⟩
  · refine ⟨u, A, F, b, n, p, z, o, rfl, rfl, hK, ho, he, fun r hrr => ⟨fun ok A' F' hG => ?_, fun bad A' F' hG => ?_⟩⟩
    · have hle : r.2.1 ≤ n := by rw [hrr]; exact PR_le _ _ _ _ hpn
      have hK1 := RK_of hK hG hle
      refine ⟨u, A', F', b, n, r.2.1, rfl, rfl, hK1.1, hn50, hK1.2.2.1, by omega, hK1.2.2.2.2.2.2, fun v hv => ?_⟩
      refine ⟨2 * (n - r.2.1) + 2, rfl, 0, 1, v, A', F', rfl, by omega, rfl, Or.inl ⟨rfl, rfl, r.2.1, r.2.2, Nat.zero_le _, hle, hv, rfl, hG, ?_⟩⟩
      rw [← eR, PR_3 hn50, ← hrr]
      exact congrArg (fun x => cat2 x _) (PT_t ok)
    · have hle : r.2.1 ≤ n := by rw [hrr]; exact PR_le _ _ _ _ hpn
      have e1 : R = (false, r.2.1, []) := by
        rw [← eR, PR_3 hn50, ← hrr]
        exact cat2_f1 bad
      refine ⟨u, A', F', b, n, r.2.1, rfl, rfl, (hG.2.2.2 80 (by omega) (by omega)).trans hK.1, hn50, hG.2.1, by omega, fun j hj => by rw [hG.1 5 rfl]; exact hK.2.2.2.2.2.2 j hj, fun v hv => ?_⟩
      exact ⟨0, rfl, 0, 0, v, A', F', rfl, by omega, rfl, Or.inr (Or.inr ⟨rfl, rfl, rfl, by rw [e1]; exact hG, by rw [e1]⟩)⟩
  · rintro m pc m9 ls st w hc ⟨rfl, i, g, v, A', F', rfl, hi50, rfl, ⟨rfl, rfl, p1, acc, hi, hp1, hv, rfl, hG, hR⟩ | ⟨rfl, rfl, hi5, p1, acc, hi, hp1, hv, hsg, rfl, hG, hR⟩ | ⟨rfl, rfl, rfl, hBd, hf⟩⟩
    · have stop : ¬ (hr b n p1 = 43 ∨ hr b n p1 = 45) → Qp (some (.int 1)) (RX u A' F') := fun q => by
        have e6 : PR b n (uN u) 8 p1 o = (true, p1, []) := by
          rw [PR_8 hn50]
          exact cif_f q
        have e1 : R = (true, p1, acc) := hR.trans (cat2_d e6)
        exact h.1 (by rw [e1]) A' F' (by rw [e1]; exact hG)
      refine And.intro (fun g => ?_) (fun g => ?_)
      · have := ge_n (x := 50) (k := 50) rfl (by omega) (by omega) g
        refine ⟨rfl, stop ?_⟩
        unfold hr
        rw [if_neg (by omega)]
        decide
      · have hlt := nge_n (x := 50) (k := 50) rfl (by omega) (by omega) g
        refine br_f xc_eq1 ?_
        have go : (hr b n p1 = 43 ∨ hr b n p1 = 45) → ∃ n', n' < 2 * (n - p1) + 2 ∧ ([] : List Value) = [] ∧ ∃ (i' : Nat) (g v' : Int32) (A'' : XA) (F'' : Nat → Int32), RX u A' F' = RX u A'' F'' ∧ i' ≤ 50 ∧ [(0, Value.ref 0), (1, .int (nI o)), (2, .int 1), (3, .int v), (4, .int (nI i))] = [(0, .ref 0), (1, .int (nI o)), (2, .int g), (3, .int v'), (4, .int (nI i'))] ∧ ((37 = 14 ∧ g = 1 ∧ ∃ p1 acc, i' ≤ p1 ∧ p1 ≤ n ∧ v' = hr b n p1 ∧ n' = 2 * (n - p1) + 2 ∧ GD A F z A'' F'' p1 acc ∧ R = cat2 (true, p1, acc) (fun q => PR b n (uN u) 8 q o)) ∨ (37 = 37 ∧ g = 1 ∧ i' < 50 ∧ ∃ p1 acc, i' ≤ p1 ∧ p1 < n ∧ v' = hr b n p1 ∧ (hr b n p1 = 43 ∨ hr b n p1 = 45) ∧ n' = 2 * (n - p1) + 1 ∧ GD A F z A'' F'' p1 acc ∧ R = cat2 (true, p1, acc) (fun q => PR b n (uN u) 8 q o)) ∨ (37 = 14 ∧ g = 0 ∧ n' = 0 ∧ BD A F A'' F'' R.2.1 ∧ R.1 = false)) := fun q => by
          have hp1n : p1 < n := by
            rcases q with q | q <;> exact hr_lt q (by decide)
          exact ⟨2 * (n - p1) + 1, by omega, rfl, i, 1, v, A', F', rfl, by omega, rfl, Or.inr (Or.inl ⟨rfl, rfl, hlt, p1, acc, hi, hp1n, hv, q, rfl, hG, hR⟩)⟩
        refine And.intro (fun g0 => ?_) (fun g0 => ?_)
        · have g0 : v = 43 := g0
          exact go (by rw [← hv, g0]; decide)
        · have g0 : ¬ v = 43 := g0
          refine And.intro (fun g9 => ?_) (fun g9 => ?_)
          · have g9 : ¬ v = 45 := g9
            exact ⟨rfl, stop (by rw [← hv]; exact fun q => q.elim g0 g9)⟩
          · have g9 : v = 45 := Classical.byContradiction g9
            exact go (by rw [← hv, g9]; decide)
    · have hG1 := GD_adv hG
      have hK2 := RK_of hK hG1 (by omega)
      have e81 : F' 81 + 1 = nI (p1 + 1) := by rw [hG.2.1, nI_1]
      have e6 : cat2 (true, p1, acc) (fun q => PR b n (uN u) 8 q o) = cat2 (true, p1, acc) (fun q => cat2 (PR b n (uN u) 4 (q + 1) o) (fun q => cat2 (true, q, [-v]) (fun q => PR b n (uN u) 8 q o))) := by
        show (match PR b n (uN u) 8 p1 o with
          | (true, q2, qs) => (true, q2, acc ++ qs)
          | (false, q2, _) => (false, q2, [])) = _
        rw [PR_8 hn50, cif_t hsg, hv]
        rfl
      refine ⟨u, A', fset F' 81 (nI (p1 + 1)), b, n, p1 + 1, z + acc.length, o, rfl, by rw [← e81]; rfl, hK2, ho, he, fun r hrr => ⟨fun ok A2 F2 hG2 => ?_, fun bad A2 F2 hG2 => ?_⟩⟩
      · have hle : r.2.1 ≤ n := by rw [hrr]; exact PR_le _ _ _ _ (by omega)
        have hlen : p1 + 1 + r.2.2.length ≤ r.2.1 := by rw [hrr]; exact PR_len (by rw [← hrr]; exact ok)
        have hG3 := GD_sub hG1 hG2
        have hzl : z + (acc ++ r.2.2).length < r.2.1 := by
          have := hG.2.2.2.2.2.2
          rw [List.length_append]
          omega
        have hG4 := GD_add (x := -v) hG3 hzl
        have hK4 := RK_of hK hG4 hle
        refine ⟨u, A2, F2, z + (acc ++ r.2.2).length, -v, rfl, rfl, hG3.2.2.1, by omega, fun _ => ?_, fun q => absurd (by omega) q⟩
        refine ⟨u, _, _, b, n, r.2.1, rfl, rfl, hK4.1, hn50, hK4.2.2.1, by omega, hK4.2.2.2.2.2.2, fun v2 hv2 => ?_⟩
        refine ⟨2 * (n - r.2.1) + 2, by omega, rfl, i + 1, 1, v2, _, _, rfl, by omega, by rw [← nI_1 i]; rfl, Or.inl ⟨rfl, rfl, r.2.1, acc ++ r.2.2 ++ [-v], by omega, hle, hv2, rfl, hG4, ?_⟩⟩
        rw [hR, e6, cat2_ok (X := fun q => PR b n (uN u) 4 (q + 1) o) (hrr.symm.trans (PT_t ok)), cat2_ok (X := fun q => (true, q, [-v])) rfl]
      · have hle : r.2.1 ≤ n := by rw [hrr]; exact PR_le _ _ _ _ (by omega)
        obtain ⟨z2, hz2, ez2⟩ := hG2.2.2.1
        have hB2 := BD_of hG1 hG2
        have e1 : R = (false, r.2.1, []) := by rw [hR, e6, cat2_no (X := fun q => PR b n (uN u) 4 (q + 1) o) (hrr.symm.trans (PT_f bad))]
        refine ⟨u, A2, F2, z2, -v, rfl, rfl, ez2, hz2, fun hz => ?_, fun hz => ?_⟩
        · have hB3 := BD_add (x := -v) hB2 hz
          refine ⟨u, _, _, b, n, r.2.1, rfl, rfl, (hB3.2.2.2 80 (by omega) (by omega)).trans hK.1, hn50, hB3.2.1, by omega, fun j hj => by rw [hB3.1 5 rfl]; exact hK.2.2.2.2.2.2 j hj, fun v2 hv2 => ?_⟩
          exact ⟨0, by omega, rfl, i + 1, 0, v2, _, _, rfl, by omega, by rw [← nI_1 i]; rfl, Or.inr (Or.inr ⟨rfl, rfl, rfl, by rw [e1]; exact hB3, by rw [e1]⟩)⟩
        · refine ⟨u, A2, F2, b, n, r.2.1, rfl, rfl, (hB2.2.2.2 80 (by omega) (by omega)).trans hK.1, hn50, hB2.2.1, by omega, fun j hj => by rw [hB2.1 5 rfl]; exact hK.2.2.2.2.2.2 j hj, fun v2 hv2 => ?_⟩
          exact ⟨0, by omega, rfl, i + 1, 0, v2, A2, F2, rfl, by omega, by rw [← nI_1 i]; rfl, Or.inr (Or.inr ⟨rfl, rfl, rfl, by rw [e1]; exact hB2, by rw [e1]⟩)⟩
    · refine And.intro (fun g => ?_) (fun g => ?_)
      · exact ⟨rfl, h.2 hf A' F' hBd⟩
      · refine br_t xc_eq0 ?_
        exact ⟨rfl, h.2 hf A' F' hBd⟩
set_option maxRecDepth 10000 in
set_option maxHeartbeats 1000000 in
theorem pX3_readProduct (e d : Nat) (hB : xCT d yX3_readPart cX3_readPart 4 (some .boolean) (sRd 5 e)) : xCT (d + 1) yX3_readProduct cX3_readProduct 5 (some .boolean) (sRd 4 e) := by
  refine xmet (tb := tX3_readProduct) (fl := fX3) (kc := nX3) (gs := g0) (cl := xlk [(70, true, 2, xrcv 3 (sRd 5 e)), (53, true, 1, xrcv 3 (sX3_sign)), (57, true, 2, xrcv 2 (sX2_add_RX))]) (by decide) tX3_readProduct_ok fX3_ok nX3_ok g0_ok (xg_cons (k_X3_70 hB) (xg_cons (k_X3_53 (mX3_sign d (by omega))) (xg_cons (k_X3_57 (mX2_add_RX d (by omega))) xg_nil))) ?_
  rintro L xs as w Qp ⟨u, A, F, b, n, p, z, o, rfl, rfl, hK, ho, he, h⟩
  have hn50 : n ≤ 50 := hK.2.1
  have hpn : p ≤ n := hK.2.2.2.1
  have h := h _ rfl
  generalize eR : PR b n (uN u) 4 p o = R at h
  refine ⟨Nat.le_of_ble_eq_true rfl, 400, xlk [(14, 5), (43, 5)], fun m pc ls st w => st = [] ∧ ∃ (i : Nat) (g v : Int32) (A' : XA) (F' : Nat → Int32), w = RX u A' F' ∧ i ≤ 50 ∧ ls = [(0, .ref 0), (1, .int (nI o)), (2, .int g), (3, .int v), (4, .int (nI i))] ∧ ((pc = 14 ∧ g = 1 ∧ ∃ p1 acc, i ≤ p1 ∧ p1 ≤ n ∧ v = hr b n p1 ∧ m = 2 * (n - p1) + 2 ∧ GD A F z A' F' p1 acc ∧ R = cat2 (true, p1, acc) (fun q => PR b n (uN u) 9 q o)) ∨ (pc = 43 ∧ g = 1 ∧ i < 50 ∧ ∃ p1 acc, i ≤ p1 ∧ p1 < n ∧ v = hr b n p1 ∧ (hr b n p1 = 42 ∨ hr b n p1 = 47 ∨ hr b n p1 = 37) ∧ m = 2 * (n - p1) + 1 ∧ GD A F z A' F' p1 acc ∧ R = cat2 (true, p1, acc) (fun q => PR b n (uN u) 9 q o)) ∨ (pc = 14 ∧ g = 0 ∧ m = 0 ∧ BD A F A' F' R.2.1 ∧ R.1 = false)), ?_, ?_⟩
  · refine ⟨u, A, F, b, n, p, z, o, rfl, rfl, hK, ho, he, fun r hrr => ⟨fun ok A' F' hG => ?_, fun bad A' F' hG => ?_⟩⟩
    · have hle : r.2.1 ≤ n := by rw [hrr]; exact PR_le _ _ _ _ hpn
      have hK1 := RK_of hK hG hle
      refine ⟨u, A', F', b, n, r.2.1, rfl, rfl, hK1.1, hn50, hK1.2.2.1, by omega, hK1.2.2.2.2.2.2, fun v hv => ?_⟩
      refine ⟨2 * (n - r.2.1) + 2, rfl, 0, 1, v, A', F', rfl, by omega, rfl, Or.inl ⟨rfl, rfl, r.2.1, r.2.2, Nat.zero_le _, hle, hv, rfl, hG, ?_⟩⟩
      rw [← eR, PR_4 hn50, ← hrr]
      exact congrArg (fun x => cat2 x _) (PT_t ok)
    · have hle : r.2.1 ≤ n := by rw [hrr]; exact PR_le _ _ _ _ hpn
      have e1 : R = (false, r.2.1, []) := by
        rw [← eR, PR_4 hn50, ← hrr]
        exact cat2_f1 bad
      refine ⟨u, A', F', b, n, r.2.1, rfl, rfl, (hG.2.2.2 80 (by omega) (by omega)).trans hK.1, hn50, hG.2.1, by omega, fun j hj => by rw [hG.1 5 rfl]; exact hK.2.2.2.2.2.2 j hj, fun v hv => ?_⟩
      exact ⟨0, rfl, 0, 0, v, A', F', rfl, by omega, rfl, Or.inr (Or.inr ⟨rfl, rfl, rfl, by rw [e1]; exact hG, by rw [e1]⟩)⟩
  · rintro m pc m9 ls st w hc ⟨rfl, i, g, v, A', F', rfl, hi50, rfl, ⟨rfl, rfl, p1, acc, hi, hp1, hv, rfl, hG, hR⟩ | ⟨rfl, rfl, hi5, p1, acc, hi, hp1, hv, hsg, rfl, hG, hR⟩ | ⟨rfl, rfl, rfl, hBd, hf⟩⟩
    · have stop : ¬ (hr b n p1 = 42 ∨ hr b n p1 = 47 ∨ hr b n p1 = 37) → Qp (some (.int 1)) (RX u A' F') := fun q => by
        have e6 : PR b n (uN u) 9 p1 o = (true, p1, []) := by
          rw [PR_9 hn50]
          exact cif_f q
        have e1 : R = (true, p1, acc) := hR.trans (cat2_d e6)
        exact h.1 (by rw [e1]) A' F' (by rw [e1]; exact hG)
      refine And.intro (fun g => ?_) (fun g => ?_)
      · have := ge_n (x := 50) (k := 50) rfl (by omega) (by omega) g
        refine ⟨rfl, stop ?_⟩
        unfold hr
        rw [if_neg (by omega)]
        decide
      · have hlt := nge_n (x := 50) (k := 50) rfl (by omega) (by omega) g
        refine br_f xc_eq1 ?_
        have go : (hr b n p1 = 42 ∨ hr b n p1 = 47 ∨ hr b n p1 = 37) → ∃ n', n' < 2 * (n - p1) + 2 ∧ ([] : List Value) = [] ∧ ∃ (i' : Nat) (g v' : Int32) (A'' : XA) (F'' : Nat → Int32), RX u A' F' = RX u A'' F'' ∧ i' ≤ 50 ∧ [(0, Value.ref 0), (1, .int (nI o)), (2, .int 1), (3, .int v), (4, .int (nI i))] = [(0, .ref 0), (1, .int (nI o)), (2, .int g), (3, .int v'), (4, .int (nI i'))] ∧ ((43 = 14 ∧ g = 1 ∧ ∃ p1 acc, i' ≤ p1 ∧ p1 ≤ n ∧ v' = hr b n p1 ∧ n' = 2 * (n - p1) + 2 ∧ GD A F z A'' F'' p1 acc ∧ R = cat2 (true, p1, acc) (fun q => PR b n (uN u) 9 q o)) ∨ (43 = 43 ∧ g = 1 ∧ i' < 50 ∧ ∃ p1 acc, i' ≤ p1 ∧ p1 < n ∧ v' = hr b n p1 ∧ (hr b n p1 = 42 ∨ hr b n p1 = 47 ∨ hr b n p1 = 37) ∧ n' = 2 * (n - p1) + 1 ∧ GD A F z A'' F'' p1 acc ∧ R = cat2 (true, p1, acc) (fun q => PR b n (uN u) 9 q o)) ∨ (43 = 14 ∧ g = 0 ∧ n' = 0 ∧ BD A F A'' F'' R.2.1 ∧ R.1 = false)) := fun q => by
          have hp1n : p1 < n := by
            rcases q with q | q | q <;> exact hr_lt q (by decide)
          exact ⟨2 * (n - p1) + 1, by omega, rfl, i, 1, v, A', F', rfl, by omega, rfl, Or.inr (Or.inl ⟨rfl, rfl, hlt, p1, acc, hi, hp1n, hv, q, rfl, hG, hR⟩)⟩
        refine And.intro (fun g0 => ?_) (fun g0 => ?_)
        · have g0 : v = 42 := g0
          exact go (by rw [← hv, g0]; decide)
        · have g0 : ¬ v = 42 := g0
          refine And.intro (fun g1 => ?_) (fun g1 => ?_)
          · have g1 : v = 47 := g1
            exact go (by rw [← hv, g1]; decide)
          · have g1 : ¬ v = 47 := g1
            refine And.intro (fun g9 => ?_) (fun g9 => ?_)
            · have g9 : ¬ v = 37 := g9
              exact ⟨rfl, stop (by rw [← hv]; exact fun q => q.elim g0 (fun q => q.elim g1 g9))⟩
            · have g9 : v = 37 := Classical.byContradiction g9
              exact go (by rw [← hv, g9]; decide)
    · have hG1 := GD_adv hG
      have hK2 := RK_of hK hG1 (by omega)
      have e81 : F' 81 + 1 = nI (p1 + 1) := by rw [hG.2.1, nI_1]
      have e6 : cat2 (true, p1, acc) (fun q => PR b n (uN u) 9 q o) = cat2 (true, p1, acc) (fun q => cat2 (PR b n (uN u) 5 (q + 1) o) (fun q => cat2 (true, q, [-v]) (fun q => PR b n (uN u) 9 q o))) := by
        show (match PR b n (uN u) 9 p1 o with
          | (true, q2, qs) => (true, q2, acc ++ qs)
          | (false, q2, _) => (false, q2, [])) = _
        rw [PR_9 hn50, cif_t hsg, hv]
        rfl
      refine ⟨u, A', fset F' 81 (nI (p1 + 1)), b, n, p1 + 1, z + acc.length, o, rfl, by rw [← e81]; rfl, hK2, ho, he, fun r hrr => ⟨fun ok A2 F2 hG2 => ?_, fun bad A2 F2 hG2 => ?_⟩⟩
      · have hle : r.2.1 ≤ n := by rw [hrr]; exact PR_le _ _ _ _ (by omega)
        have hlen : p1 + 1 + r.2.2.length ≤ r.2.1 := by rw [hrr]; exact PR_len (by rw [← hrr]; exact ok)
        have hG3 := GD_sub hG1 hG2
        have hzl : z + (acc ++ r.2.2).length < r.2.1 := by
          have := hG.2.2.2.2.2.2
          rw [List.length_append]
          omega
        have hG4 := GD_add (x := -v) hG3 hzl
        have hK4 := RK_of hK hG4 hle
        refine ⟨u, A2, F2, z + (acc ++ r.2.2).length, -v, rfl, rfl, hG3.2.2.1, by omega, fun _ => ?_, fun q => absurd (by omega) q⟩
        refine ⟨u, _, _, b, n, r.2.1, rfl, rfl, hK4.1, hn50, hK4.2.2.1, by omega, hK4.2.2.2.2.2.2, fun v2 hv2 => ?_⟩
        refine ⟨2 * (n - r.2.1) + 2, by omega, rfl, i + 1, 1, v2, _, _, rfl, by omega, by rw [← nI_1 i]; rfl, Or.inl ⟨rfl, rfl, r.2.1, acc ++ r.2.2 ++ [-v], by omega, hle, hv2, rfl, hG4, ?_⟩⟩
        rw [hR, e6, cat2_ok (X := fun q => PR b n (uN u) 5 (q + 1) o) (hrr.symm.trans (PT_t ok)), cat2_ok (X := fun q => (true, q, [-v])) rfl]
      · have hle : r.2.1 ≤ n := by rw [hrr]; exact PR_le _ _ _ _ (by omega)
        obtain ⟨z2, hz2, ez2⟩ := hG2.2.2.1
        have hB2 := BD_of hG1 hG2
        have e1 : R = (false, r.2.1, []) := by rw [hR, e6, cat2_no (X := fun q => PR b n (uN u) 5 (q + 1) o) (hrr.symm.trans (PT_f bad))]
        refine ⟨u, A2, F2, z2, -v, rfl, rfl, ez2, hz2, fun hz => ?_, fun hz => ?_⟩
        · have hB3 := BD_add (x := -v) hB2 hz
          refine ⟨u, _, _, b, n, r.2.1, rfl, rfl, (hB3.2.2.2 80 (by omega) (by omega)).trans hK.1, hn50, hB3.2.1, by omega, fun j hj => by rw [hB3.1 5 rfl]; exact hK.2.2.2.2.2.2 j hj, fun v2 hv2 => ?_⟩
          exact ⟨0, by omega, rfl, i + 1, 0, v2, _, _, rfl, by omega, by rw [← nI_1 i]; rfl, Or.inr (Or.inr ⟨rfl, rfl, rfl, by rw [e1]; exact hB3, by rw [e1]⟩)⟩
        · refine ⟨u, A2, F2, b, n, r.2.1, rfl, rfl, (hB2.2.2.2 80 (by omega) (by omega)).trans hK.1, hn50, hB2.2.1, by omega, fun j hj => by rw [hB2.1 5 rfl]; exact hK.2.2.2.2.2.2 j hj, fun v2 hv2 => ?_⟩
          exact ⟨0, by omega, rfl, i + 1, 0, v2, A2, F2, rfl, by omega, by rw [← nI_1 i]; rfl, Or.inr (Or.inr ⟨rfl, rfl, rfl, by rw [e1]; exact hB2, by rw [e1]⟩)⟩
    · refine And.intro (fun g => ?_) (fun g => ?_)
      · exact ⟨rfl, h.2 hf A' F' hBd⟩
      · refine br_t xc_eq0 ?_
        exact ⟨rfl, h.2 hf A' F' hBd⟩
