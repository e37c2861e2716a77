/-! ===== the class: the reader's levels ===== -/
/-- level c, at most e deep -/
def sRd (c e : Nat) : XS := fun as w post => ∃ (u : Bool) (A : XA) (F b : Nat → Int32) (n p z o : Nat), as = [.ref 0, .int (nI o)] ∧ w = RX u A F ∧ RK A F b n p z ∧ o ≤ 5 ∧ 5 < o + e ∧ ∀ r, r = PR b n (uN u) c p o → (r.1 = true → ∀ A' F', GD A F z A' F' r.2.1 r.2.2 → post (some (.int 1)) (RX u A' F')) ∧ (r.1 = false → ∀ A' F', BD A F A' F' r.2.1 → post (some (.int 0)) (RX u A' F'))
theorem PR_len {b : Nat → Int32} {n u c p o : Nat} (h : (PR b n u c p o).1 = true) : p + (PR b n u c p o).2.2.length ≤ (PR b n u c p o).2.1 := (PP_ok (fun _ => 0) b n u 700 c p o h).2.2.1
theorem PR_ge (b : Nat → Int32) (n u c p o : Nat) : p ≤ (PR b n u c p o).2.1 := PP_ge b n u 700 c p o
theorem PR_le (b : Nat → Int32) {n : Nat} (u c : Nat) {p : Nat} (o : Nat) (h : p ≤ n) : (PR b n u c p o).2.1 ≤ n := PP_le b n u 700 c p o h
theorem BD_add {A A' : XA} {F F' : Nat → Int32} {q z : Nat} {x : Int32} (h : BD A F A' F' q) (hz : z < 50) : BD A F (aset A' 2 (upd (A' 2) z x)) (fset F' 82 (nI (z + 1))) q := ⟨sm_tr h.1 (sm_aset rfl), h.2.1, ⟨z + 1, by omega, rfl⟩, fun p q1 q2 => (fsN q2).trans (h.2.2.2 p q1 q2)⟩
set_option maxRecDepth 10000 in
set_option maxHeartbeats 1000000 in
theorem pX3_readEither (e d : Nat) (hB : xCT d yX3_readBoth cX3_readBoth 4 (some .boolean) (sRd 1 e)) : xCT (d + 1) yX3_readEither cX3_readEither 4 (some .boolean) (sRd 0 e) := by
  refine xmet (tb := tX3_readEither) (fl := fX3) (kc := nX3) (gs := g0) (cl := xlk [(50, true, 2, xrcv 3 (sRd 1 e)), (53, true, 1, xrcv 3 (sX3_sign)), (57, true, 2, xrcv 2 (sX2_add_RX))]) (by decide) tX3_readEither_ok fX3_ok nX3_ok g0_ok (xg_cons (k_X3_50 hB) (xg_cons (k_X3_53 (mX3_sign d (by omega))) (xg_cons (k_X3_57 (mX2_add_RX d (by omega))) xg_nil))) ?_
  rintro L xs as w Qp ⟨u, A, F, b, n, p, z, o, rfl, rfl, hK, ho, he, h⟩
  have hn50 : n ≤ 50 := hK.2.1
  have hpn : p ≤ n := hK.2.2.2.1
  have h := h _ rfl
  generalize eR : PR b n (uN u) 0 p o = R at h
  refine ⟨Nat.le_of_ble_eq_true rfl, 400, xlk [(8, 4)], fun m pc ls st w => pc = 8 ∧ st = [] ∧ ∃ (i : Nat) (g : Int32) (A' : XA) (F' : Nat → Int32), w = RX u A' F' ∧ i ≤ 50 ∧ ls = [(0, .ref 0), (1, .int (nI o)), (2, .int g), (3, .int (nI i))] ∧ ((g = 1 ∧ ∃ p1 acc, i ≤ p1 ∧ p1 ≤ n ∧ m = n - p1 + 1 ∧ GD A F z A' F' p1 acc ∧ R = cat2 (true, p1, acc) (fun q => PR b n (uN u) 6 q o)) ∨ (g = 0 ∧ m = 0 ∧ BD A F A' F' R.2.1 ∧ R.1 = false)), ?_, ?_⟩
  · refine ⟨u, A, F, b, n, p, z, o, rfl, rfl, hK, ho, he, fun r hrr => ⟨fun ok A' F' hG => ?_, fun bad A' F' hG => ?_⟩⟩
    · refine ⟨n - r.2.1 + 1, rfl, rfl, 0, 1, A', F', rfl, by omega, rfl, Or.inl ⟨rfl, r.2.1, r.2.2, Nat.zero_le _, by rw [hrr]; exact PR_le _ _ _ _ hpn, rfl, hG, ?_⟩⟩
      rw [← eR, PR_0 hn50, ← hrr]
      exact congrArg (fun x => cat2 x _) (PT_t ok)
    · have e1 : R = (false, r.2.1, []) := by
        rw [← eR, PR_0 hn50, ← hrr]
        exact cat2_f1 bad
      exact ⟨0, rfl, rfl, 0, 0, A', F', rfl, by omega, rfl, Or.inr ⟨rfl, rfl, by rw [e1]; exact hG, by rw [e1]⟩⟩
  · rintro m pc m9 ls st w hc ⟨rfl, rfl, i, g, A', F', rfl, hi50, rfl, ⟨rfl, p1, acc, hi, hp1, rfl, hG, hR⟩ | ⟨rfl, rfl, hBd, hf⟩⟩
    · have hK1 := RK_of hK hG hp1
      have stop : ¬ hr b n p1 = 124 → Qp (some (.int 1)) (RX u A' F') := fun q => by
        have e6 : PR b n (uN u) 6 p1 o = (true, p1, []) := by
          rw [PR_6 hn50]
          exact cif_f q
        have e1 : R = (true, p1, acc) := hR.trans (cat2_d e6)
        exact h.1 (by rw [e1]) A' F' (by rw [e1]; exact hG)
      refine And.intro (fun g => ?_) (fun g => ?_)
      · have := ge_n (x := 50) (k := 50) rfl (by omega) (by omega) g
        refine ⟨rfl, stop ?_⟩
        unfold hr
        rw [if_neg (by omega)]
        decide
      · have hlt := nge_n (x := 50) (k := 50) rfl (by omega) (by omega) g
        refine br_f xc_eq1 ?_
        refine ⟨u, A', F', b, n, p1, rfl, rfl, hK1.1, hn50, hK1.2.2.1, by omega, hK1.2.2.2.2.2.2, fun v hv => ?_⟩
        refine And.intro (fun g2 => ?_) (fun g2 => ?_)
        · have g2 : ¬ v = 124 := g2
          exact ⟨rfl, stop (by rw [← hv]; exact g2)⟩
        · have g2 : v = 124 := Classical.byContradiction g2
          rw [hv] at g2
          have hp1n : p1 < n := hr_lt g2 (by decide)
          have hG1 := GD_adv hG
          have hK2 := RK_of hK hG1 (by omega)
          have e81 : F' 81 + 1 = nI (p1 + 1) := by rw [hG.2.1, nI_1]
          refine ⟨u, A', fset F' 81 (nI (p1 + 1)), b, n, p1 + 1, z + acc.length, o, rfl, by rw [← e81]; rfl, hK2, ho, he, fun r hrr => ⟨fun ok A2 F2 hG2 => ?_, fun bad A2 F2 hG2 => ?_⟩⟩
          · have hle : r.2.1 ≤ n := by rw [hrr]; exact PR_le _ _ _ _ (by omega)
            have hlen : p1 + 1 + r.2.2.length ≤ r.2.1 := by rw [hrr]; exact PR_len (by rw [← hrr]; exact ok)
            have hG3 := GD_sub hG1 hG2
            have hzl : z + (acc ++ r.2.2).length < r.2.1 := by
              have := hG.2.2.2.2.2.2
              rw [List.length_append]
              omega
            refine ⟨u, A2, F2, z + (acc ++ r.2.2).length, -124, rfl, rfl, hG3.2.2.1, by omega, fun _ => ?_, fun q => absurd (by omega) q⟩
            refine ⟨n - r.2.1 + 1, by omega, rfl, rfl, i + 1, 1, _, _, rfl, by omega, by rw [← nI_1 i]; rfl, Or.inl ⟨rfl, r.2.1, acc ++ r.2.2 ++ [-124], by omega, hle, rfl, GD_add hG3 hzl, ?_⟩⟩
            rw [hR]
            have e6 : cat2 (true, p1, acc) (fun q => PR b n (uN u) 6 q o) = cat2 (true, p1, acc) (fun q => cat2 (PR b n (uN u) 1 (q + 1) o) (fun q => cat2 (true, q, [-124]) (fun q => PR b n (uN u) 6 q o))) := by
              show (match PR b n (uN u) 6 p1 o with
                | (true, q2, qs) => (true, q2, acc ++ qs)
                | (false, q2, _) => (false, q2, [])) = _
              rw [PR_6 hn50, cif_t g2]
              rfl
            rw [e6, cat2_ok (X := fun q => PR b n (uN u) 1 (q + 1) o) (hrr.symm.trans (PT_t ok)), cat2_ok (X := fun q => (true, q, [-124])) rfl]
          · obtain ⟨z2, hz2, ez2⟩ := hG2.2.2.1
            have hB2 := BD_of hG1 hG2
            have e1 : R = (false, r.2.1, []) := by
              rw [hR]
              have e6 : cat2 (true, p1, acc) (fun q => PR b n (uN u) 6 q o) = cat2 (true, p1, acc) (fun q => cat2 (PR b n (uN u) 1 (q + 1) o) (fun q => cat2 (true, q, [-124]) (fun q => PR b n (uN u) 6 q o))) := by
                show (match PR b n (uN u) 6 p1 o with
                  | (true, q2, qs) => (true, q2, acc ++ qs)
                  | (false, q2, _) => (false, q2, [])) = _
                rw [PR_6 hn50, cif_t g2]
                rfl
              rw [e6, cat2_no (X := fun q => PR b n (uN u) 1 (q + 1) o) (hrr.symm.trans (PT_f bad))]
            refine ⟨u, A2, F2, z2, -124, rfl, rfl, ez2, hz2, fun hz => ?_, fun hz => ?_⟩
            · exact ⟨0, by omega, rfl, rfl, i + 1, 0, _, _, rfl, by omega, by rw [← nI_1 i]; rfl, Or.inr ⟨rfl, rfl, by rw [e1]; exact BD_add hB2 hz, by rw [e1]⟩⟩
            · exact ⟨0, by omega, rfl, rfl, i + 1, 0, A2, F2, rfl, by omega, by rw [← nI_1 i]; rfl, Or.inr ⟨rfl, rfl, by rw [e1]; exact hB2, by rw [e1]⟩⟩
    · refine And.intro (fun g => ?_) (fun g => ?_)
      · exact ⟨rfl, h.2 hf A' F' hBd⟩
      · refine br_t xc_eq0 ?_
        exact ⟨rfl, h.2 hf A' F' hBd⟩
set_option maxRecDepth 10000 in
set_option maxHeartbeats 1000000 in
theorem pX3_readBoth (e d : Nat) (hB : xCT d yX3_readCompared cX3_readCompared 4 (some .boolean) (sRd 2 e)) : xCT (d + 1) yX3_readBoth cX3_readBoth 4 (some .boolean) (sRd 1 e) := by
  refine xmet (tb := tX3_readBoth) (fl := fX3) (kc := nX3) (gs := g0) (cl := xlk [(61, true, 2, xrcv 3 (sRd 2 e)), (53, true, 1, xrcv 3 (sX3_sign)), (57, true, 2, xrcv 2 (sX2_add_RX))]) (by decide) tX3_readBoth_ok fX3_ok nX3_ok g0_ok (xg_cons (k_X3_61 hB) (xg_cons (k_X3_53 (mX3_sign d (by omega))) (xg_cons (k_X3_57 (mX2_add_RX d (by omega))) xg_nil))) ?_
  rintro L xs as w Qp ⟨u, A, F, b, n, p, z, o, rfl, rfl, hK, ho, he, h⟩
  have hn50 : n ≤ 50 := hK.2.1
  have hpn : p ≤ n := hK.2.2.2.1
  have h := h _ rfl
  generalize eR : PR b n (uN u) 1 p o = R at h
  refine ⟨Nat.le_of_ble_eq_true rfl, 400, xlk [(8, 4)], fun m pc ls st w => pc = 8 ∧ st = [] ∧ ∃ (i : Nat) (g : Int32) (A' : XA) (F' : Nat → Int32), w = RX u A' F' ∧ i ≤ 50 ∧ ls = [(0, .ref 0), (1, .int (nI o)), (2, .int g), (3, .int (nI i))] ∧ ((g = 1 ∧ ∃ p1 acc, i ≤ p1 ∧ p1 ≤ n ∧ m = n - p1 + 1 ∧ GD A F z A' F' p1 acc ∧ R = cat2 (true, p1, acc) (fun q => PR b n (uN u) 7 q o)) ∨ (g = 0 ∧ m = 0 ∧ BD A F A' F' R.2.1 ∧ R.1 = false)), ?_, ?_⟩
  · refine ⟨u, A, F, b, n, p, z, o, rfl, rfl, hK, ho, he, fun r hrr => ⟨fun ok A' F' hG => ?_, fun bad A' F' hG => ?_⟩⟩
    · refine ⟨n - r.2.1 + 1, rfl, rfl, 0, 1, A', F', rfl, by omega, rfl, Or.inl ⟨rfl, r.2.1, r.2.2, Nat.zero_le _, by rw [hrr]; exact PR_le _ _ _ _ hpn, rfl, hG, ?_⟩⟩
      rw [← eR, PR_1 hn50, ← hrr]
      exact congrArg (fun x => cat2 x _) (PT_t ok)
    · have e1 : R = (false, r.2.1, []) := by
        rw [← eR, PR_1 hn50, ← hrr]
        exact cat2_f1 bad
      exact ⟨0, rfl, rfl, 0, 0, A', F', rfl, by omega, rfl, Or.inr ⟨rfl, rfl, by rw [e1]; exact hG, by rw [e1]⟩⟩
  · rintro m pc m9 ls st w hc ⟨rfl, rfl, i, g, A', F', rfl, hi50, rfl, ⟨rfl, p1, acc, hi, hp1, rfl, hG, hR⟩ | ⟨rfl, rfl, hBd, hf⟩⟩
    · have hK1 := RK_of hK hG hp1
      have stop : ¬ hr b n p1 = 38 → Qp (some (.int 1)) (RX u A' F') := fun q => by
        have e6 : PR b n (uN u) 7 p1 o = (true, p1, []) := by
          rw [PR_7 hn50]
          exact cif_f q
        have e1 : R = (true, p1, acc) := hR.trans (cat2_d e6)
        exact h.1 (by rw [e1]) A' F' (by rw [e1]; exact hG)
      refine And.intro (fun g => ?_) (fun g => ?_)
      · have := ge_n (x := 50) (k := 50) rfl (by omega) (by omega) g
        refine ⟨rfl, stop ?_⟩
        unfold hr
        rw [if_neg (by omega)]
        decide
      · have hlt := nge_n (x := 50) (k := 50) rfl (by omega) (by omega) g
        refine br_f xc_eq1 ?_
        refine ⟨u, A', F', b, n, p1, rfl, rfl, hK1.1, hn50, hK1.2.2.1, by omega, hK1.2.2.2.2.2.2, fun v hv => ?_⟩
        refine And.intro (fun g2 => ?_) (fun g2 => ?_)
        · have g2 : ¬ v = 38 := g2
          exact ⟨rfl, stop (by rw [← hv]; exact g2)⟩
        · have g2 : v = 38 := Classical.byContradiction g2
          rw [hv] at g2
          have hp1n : p1 < n := hr_lt g2 (by decide)
          have hG1 := GD_adv hG
          have hK2 := RK_of hK hG1 (by omega)
          have e81 : F' 81 + 1 = nI (p1 + 1) := by rw [hG.2.1, nI_1]
          refine ⟨u, A', fset F' 81 (nI (p1 + 1)), b, n, p1 + 1, z + acc.length, o, rfl, by rw [← e81]; rfl, hK2, ho, he, fun r hrr => ⟨fun ok A2 F2 hG2 => ?_, fun bad A2 F2 hG2 => ?_⟩⟩
          · have hle : r.2.1 ≤ n := by rw [hrr]; exact PR_le _ _ _ _ (by omega)
            have hlen : p1 + 1 + r.2.2.length ≤ r.2.1 := by rw [hrr]; exact PR_len (by rw [← hrr]; exact ok)
            have hG3 := GD_sub hG1 hG2
            have hzl : z + (acc ++ r.2.2).length < r.2.1 := by
              have := hG.2.2.2.2.2.2
              rw [List.length_append]
              omega
            refine ⟨u, A2, F2, z + (acc ++ r.2.2).length, -38, rfl, rfl, hG3.2.2.1, by omega, fun _ => ?_, fun q => absurd (by omega) q⟩
            refine ⟨n - r.2.1 + 1, by omega, rfl, rfl, i + 1, 1, _, _, rfl, by omega, by rw [← nI_1 i]; rfl, Or.inl ⟨rfl, r.2.1, acc ++ r.2.2 ++ [-38], by omega, hle, rfl, GD_add hG3 hzl, ?_⟩⟩
            rw [hR]
            have e6 : cat2 (true, p1, acc) (fun q => PR b n (uN u) 7 q o) = cat2 (true, p1, acc) (fun q => cat2 (PR b n (uN u) 2 (q + 1) o) (fun q => cat2 (true, q, [-38]) (fun q => PR b n (uN u) 7 q o))) := by
              show (match PR b n (uN u) 7 p1 o with
                | (true, q2, qs) => (true, q2, acc ++ qs)
                | (false, q2, _) => (false, q2, [])) = _
              rw [PR_7 hn50, cif_t g2]
              rfl
            rw [e6, cat2_ok (X := fun q => PR b n (uN u) 2 (q + 1) o) (hrr.symm.trans (PT_t ok)), cat2_ok (X := fun q => (true, q, [-38])) rfl]
          · obtain ⟨z2, hz2, ez2⟩ := hG2.2.2.1
            have hB2 := BD_of hG1 hG2
            have e1 : R = (false, r.2.1, []) := by
              rw [hR]
              have e6 : cat2 (true, p1, acc) (fun q => PR b n (uN u) 7 q o) = cat2 (true, p1, acc) (fun q => cat2 (PR b n (uN u) 2 (q + 1) o) (fun q => cat2 (true, q, [-38]) (fun q => PR b n (uN u) 7 q o))) := by
                show (match PR b n (uN u) 7 p1 o with
                  | (true, q2, qs) => (true, q2, acc ++ qs)
                  | (false, q2, _) => (false, q2, [])) = _
                rw [PR_7 hn50, cif_t g2]
                rfl
              rw [e6, cat2_no (X := fun q => PR b n (uN u) 2 (q + 1) o) (hrr.symm.trans (PT_f bad))]
            refine ⟨u, A2, F2, z2, -38, rfl, rfl, ez2, hz2, fun hz => ?_, fun hz => ?_⟩
            · exact ⟨0, by omega, rfl, rfl, i + 1, 0, _, _, rfl, by omega, by rw [← nI_1 i]; rfl, Or.inr ⟨rfl, rfl, by rw [e1]; exact BD_add hB2 hz, by rw [e1]⟩⟩
            · exact ⟨0, by omega, rfl, rfl, i + 1, 0, A2, F2, rfl, by omega, by rw [← nI_1 i]; rfl, Or.inr ⟨rfl, rfl, by rw [e1]; exact hB2, by rw [e1]⟩⟩
    · refine And.intro (fun g => ?_) (fun g => ?_)
      · exact ⟨rfl, h.2 hf A' F' hBd⟩
      · refine br_t xc_eq0 ?_
        exact ⟨rfl, h.2 hf A' F' hBd⟩
