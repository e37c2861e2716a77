/-! ===== the class: the reader's other levels ===== -/
set_option maxRecDepth 10000 in
set_option maxHeartbeats 1000000 in
theorem pX3_readCompared (e d : Nat) (hB : xCT d yX3_readSum cX3_readSum 5 (some .boolean) (sRd 3 e)) : xCT (d + 1) yX3_readCompared cX3_readCompared 4 (some .boolean) (sRd 2 e) := by
  refine xmet (tb := tX3_readCompared) (fl := fX3) (kc := nX3) (gs := g0) (cl := xlk [(64, true, 2, xrcv 3 (sRd 3 e)), (53, true, 1, xrcv 3 (sX3_sign)), (57, true, 2, xrcv 2 (sX2_add_RX))]) (by decide) tX3_readCompared_ok fX3_ok nX3_ok g0_ok (xg_cons (k_X3_64 hB) (xg_cons (k_X3_53 (mX3_sign d (by omega))) (xg_cons (k_X3_57 (mX2_add_RX d (by omega))) xg_nil))) ?_
  rintro L xs as w Qp ⟨u, A, F, b, n, p, z, o, rfl, rfl, hK, ho, he, h⟩
  have hn50 : n ≤ 50 := hK.2.1
  have hpn : p ≤ n := hK.2.2.2.1
  have h := h _ rfl
  generalize eR : PR b n (uN u) 2 p o = R at h
  refine ⟨Nat.le_of_ble_eq_true rfl, 400, xlk [(33, 4)], fun m pc ls st w => pc = 33 ∧ st = [] ∧ ∃ (v : Int32) (A' : XA) (F' : Nat → Int32) (p1 : Nat) (acc : List Int32), w = RX u A' F' ∧ ls = [(0, .ref 0), (1, .int (nI o)), (2, .int 1), (3, .int v)] ∧ p1 < n ∧ v = hr b n p1 ∧ (hr b n p1 = 60 ∨ hr b n p1 = 61 ∨ hr b n p1 = 62) ∧ GD A F z A' F' p1 acc ∧ R = cat2 (true, p1, acc) (fun q => cif (hr b n q = 60 ∨ hr b n q = 61 ∨ hr b n q = 62) (cat2 (PR b n (uN u) 3 (q + 1) o) (fun q2 => (true, q2, [-(hr b n q)]))) (true, q, [])), ?_, ?_⟩
  · refine ⟨u, A, F, b, n, p, z, o, rfl, rfl, hK, ho, he, fun r hrr => ⟨fun ok A' F' hG => ?_, fun bad A' F' hG => ?_⟩⟩
    · have hle : r.2.1 ≤ n := by rw [hrr]; exact PR_le _ _ _ _ hpn
      have hK1 := RK_of hK hG hle
      have hR : R = cat2 (true, r.2.1, r.2.2) (fun q => cif (hr b n q = 60 ∨ hr b n q = 61 ∨ hr b n q = 62) (cat2 (PR b n (uN u) 3 (q + 1) o) (fun q2 => (true, q2, [-(hr b n q)]))) (true, q, [])) := by
        rw [← eR, PR_2 hn50, ← hrr]
        exact congrArg (fun x => cat2 x _) (PT_t ok)
      refine ⟨u, A', F', b, n, r.2.1, rfl, rfl, hK1.1, hn50, hK1.2.2.1, by omega, hK1.2.2.2.2.2.2, fun v hv => ?_⟩
      refine br_f xc_eq1 ?_
      have go : (hr b n r.2.1 = 60 ∨ hr b n r.2.1 = 61 ∨ hr b n r.2.1 = 62) → ∃ n' : Nat, 33 = 33 ∧ ([] : List Value) = [] ∧ ∃ (v' : Int32) (A'' : XA) (F'' : Nat → Int32) (p1 : Nat) (acc : List Int32), RX u A' F' = RX u A'' F'' ∧ [(0, Value.ref 0), (1, .int (nI o)), (2, .int 1), (3, .int v)] = [(0, .ref 0), (1, .int (nI o)), (2, .int 1), (3, .int v')] ∧ p1 < n ∧ v' = hr b n p1 ∧ (hr b n p1 = 60 ∨ hr b n p1 = 61 ∨ hr b n p1 = 62) ∧ GD A F z A'' F'' p1 acc ∧ R = cat2 (true, p1, acc) (fun q => cif (hr b n q = 60 ∨ hr b n q = 61 ∨ hr b n q = 62) (cat2 (PR b n (uN u) 3 (q + 1) o) (fun q2 => (true, q2, [-(hr b n q)]))) (true, q, [])) := fun q =>
        ⟨0, rfl, rfl, v, A', F', r.2.1, r.2.2, rfl, rfl, by rcases q with q | q | q <;> exact hr_lt q (by decide), hv, q, hG, hR⟩
      refine And.intro (fun g0 => ?_) (fun g0 => ?_)
      · have g0 : v = 60 := g0
        exact go (by rw [← hv, g0]; decide)
      · have g0 : ¬ v = 60 := g0
        refine And.intro (fun g1 => ?_) (fun g1 => ?_)
        · have g1 : v = 61 := g1
          exact go (by rw [← hv, g1]; decide)
        · have g1 : ¬ v = 61 := g1
          refine And.intro (fun g9 => ?_) (fun g9 => ?_)
          · have g9 : ¬ v = 62 := g9
            have e1 : R = (true, r.2.1, r.2.2) := hR.trans (cat2_d (cif_f (by rw [← hv]; exact fun q => q.elim g0 (fun q => q.elim g1 g9))))
            exact ⟨rfl, h.1 (by rw [e1]) A' F' (by rw [e1]; exact hG)⟩
          · have g9 : v = 62 := Classical.byContradiction g9
            exact go (by rw [← hv, g9]; decide)
    · have hle : r.2.1 ≤ n := by rw [hrr]; exact PR_le _ _ _ _ hpn
      have e1 : R = (false, r.2.1, []) := by
        rw [← eR, PR_2 hn50, ← hrr]
        exact cat2_f1 bad
      refine ⟨u, A', F', b, n, r.2.1, rfl, rfl, (hG.2.2.2 80 (by omega) (by omega)).trans hK.1, hn50, hG.2.1, by omega, fun j hj => by rw [hG.1 5 rfl]; exact hK.2.2.2.2.2.2 j hj, fun v hv => ?_⟩
      refine br_t xc_eq0 ?_
      exact ⟨rfl, h.2 (by rw [e1]) A' F' (by rw [e1]; exact hG)⟩
  · rintro m pc m9 ls st w hc ⟨rfl, rfl, v, A', F', p1, acc, rfl, rfl, hp1, hv, hsg, hG, hR⟩
    have hG1 := GD_adv hG
    have hK2 := RK_of hK hG1 (by omega)
    have e81 : F' 81 + 1 = nI (p1 + 1) := by rw [hG.2.1, nI_1]
    have e6 : R = cat2 (true, p1, acc) (fun q => cat2 (PR b n (uN u) 3 (q + 1) o) (fun q2 => (true, q2, [-v]))) := by
      rw [hR]
      show (match cif (hr b n p1 = 60 ∨ hr b n p1 = 61 ∨ hr b n p1 = 62) (cat2 (PR b n (uN u) 3 (p1 + 1) o) (fun q2 => (true, q2, [-(hr b n p1)]))) (true, p1, []) with
        | (true, q2, qs) => (true, q2, acc ++ qs)
        | (false, q2, _) => (false, q2, [])) = _
      rw [cif_t hsg, hv]
      rfl
    refine ⟨u, A', fset F' 81 (nI (p1 + 1)), b, n, p1 + 1, z + acc.length, o, rfl, by rw [← e81]; rfl, hK2, ho, he, fun r hrr => ⟨fun ok A2 F2 hG2 => ?_, fun bad A2 F2 hG2 => ?_⟩⟩
    · have hle : r.2.1 ≤ n := by rw [hrr]; exact PR_le _ _ _ _ (by omega)
      have hlen : p1 + 1 + r.2.2.length ≤ r.2.1 := by rw [hrr]; exact PR_len (by rw [← hrr]; exact ok)
      have hG3 := GD_sub hG1 hG2
      have hzl : z + (acc ++ r.2.2).length < r.2.1 := by
        have := hG.2.2.2.2.2.2
        rw [List.length_append]
        omega
      have hG4 := GD_add (x := -v) hG3 hzl
      have e1 : R = (true, r.2.1, acc ++ r.2.2 ++ [-v]) := by
        rw [e6, cat2_ok (X := fun q => PR b n (uN u) 3 (q + 1) o) (hrr.symm.trans (PT_t ok))]
        rfl
      refine ⟨u, A2, F2, z + (acc ++ r.2.2).length, -v, rfl, rfl, hG3.2.2.1, by omega, fun _ => ?_, fun q => absurd (by omega) q⟩
      exact ⟨rfl, h.1 (by rw [e1]) _ _ (by rw [e1]; exact hG4)⟩
    · have hB2 := BD_of hG1 hG2
      obtain ⟨z2, hz2, ez2⟩ := hG2.2.2.1
      have e1 : R = (false, r.2.1, []) := by rw [e6, cat2_no (X := fun q => PR b n (uN u) 3 (q + 1) o) (hrr.symm.trans (PT_f bad))]
      refine ⟨u, A2, F2, z2, -v, rfl, rfl, ez2, hz2, fun hz => ?_, fun hz => ?_⟩
      · exact ⟨rfl, h.2 (by rw [e1]) _ _ (by rw [e1]; exact BD_add hB2 hz)⟩
      · exact ⟨rfl, h.2 (by rw [e1]) _ _ (by rw [e1]; exact hB2)⟩
theorem numv_mono {b : Nat → Int32} {n : Nat} {c p : Nat} {v : Int32} (h : isdg (hr b n p)) : numv b n (c + 1) p v = numv b n c (p + 1) (10 * v + hr b n p - 48) := cif_t h
def sX3_readNumber : XS := fun as w post => ∃ (u : Bool) (A : XA) (F b : Nat → Int32) (n p z : Nat), as = [.ref 0] ∧ w = RX u A F ∧ RK A F b n p z ∧ isdg (hr b n p) ∧ ∀ A' F', GD A F z A' F' (numv b n 4 p 0).1 [(numv b n 4 p 0).2] → post none (RX u A' F')
set_option maxRecDepth 10000 in
set_option maxHeartbeats 1000000 in
theorem mX3_readNumber (d : Nat) (hd : 1 ≤ d) : xCT d yX3_readNumber cX3_readNumber 3 none sX3_readNumber := by
  obtain ⟨d, rfl⟩ : ∃ e, d = e + 1 := ⟨d - 1, by omega⟩
  refine xmet (tb := tX3_readNumber) (fl := fX3) (kc := nX3) (gs := g0) (cl := xlk [(53, true, 1, xrcv 3 (sX3_sign)), (73, false, 1, sX3_isDigit), (57, true, 2, xrcv 2 (sX2_add_RX))]) (by decide) tX3_readNumber_ok fX3_ok nX3_ok g0_ok (xg_cons (k_X3_53 (mX3_sign d (by omega))) (xg_cons (k_X3_73 (mX3_isDigit d (by omega))) (xg_cons (k_X3_57 (mX2_add_RX d (by omega))) xg_nil))) ?_
  rintro L xs as w Qp ⟨u, A, F, b, n, p, z, rfl, rfl, hK, hd, h⟩
  have hn50 : n ≤ 50 := hK.2.1
  have hpn : p ≤ n := hK.2.2.2.1
  have hzp : z ≤ p := hK.2.2.2.2.2.1
  have hp1 := numv_gt hd
  have hple := numv_le b n 4 p 0 hpn
  generalize eV : numv b n 4 p 0 = V at h hp1 hple
  refine ⟨Nat.le_of_ble_eq_true rfl, 400, xlk [(4, 3), (48, 2)], fun m pc ls st w => st = [] ∧ ∃ (p1 : Nat) (v : Int32) (F' : Nat → Int32), w = RX u A F' ∧ GD A F z A F' p1 [] ∧ p1 ≤ n ∧ ((pc = 4 ∧ ∃ i, i ≤ 4 ∧ m = 5 - i ∧ ls = [(0, .ref 0), (1, .int v), (2, .int (nI i))] ∧ numv b n (4 - i) p1 v = V) ∨ (pc = 48 ∧ m = 0 ∧ ls = [(0, .ref 0), (1, .int v)] ∧ V = (p1, v))), ?_, ?_⟩
  · exact ⟨5, rfl, p, 0, F, rfl, GD_rf hK, hpn, Or.inl ⟨rfl, 0, by omega, rfl, rfl, eV⟩⟩
  · rintro m pc m9 ls st w hc ⟨rfl, p1, v, F', rfl, hG, hp1n, ⟨rfl, i, hi, rfl, rfl, hV⟩ | ⟨rfl, rfl, rfl, hV⟩⟩
    · have hK1 := RK_of hK hG hp1n
      refine And.intro (fun g => ?_) (fun g => ?_)
      · have := ge_n (x := 4) (k := 4) rfl (by omega) (by omega) g
        have ei : i = 4 := by omega
        subst ei
        exact ⟨0, by omega, rfl, p1, v, F', rfl, hG, hp1n, Or.inr ⟨rfl, rfl, rfl, hV.symm⟩⟩
      · have hlt := nge_n (x := 4) (k := 4) rfl (by omega) (by omega) g
        refine ⟨u, A, F', b, n, p1, rfl, rfl, hK1.1, hn50, hK1.2.2.1, by omega, hK1.2.2.2.2.2.2, fun s hs => ?_⟩
        refine ⟨s, rfl, fun g2 => ?_, fun g2 => ?_⟩
        · refine br_f xc_eq1 ?_
          refine ⟨u, A, F', b, n, p1, rfl, rfl, hK1.1, hn50, hK1.2.2.1, by omega, hK1.2.2.2.2.2.2, fun s2 hs2 => ?_⟩
          rw [hs] at g2
          have hp1n2 : p1 < n := dg_lt g2
          have e81 : F' 81 + 1 = nI (p1 + 1) := by rw [hG.2.1, nI_1]
          refine ⟨5 - (i + 1), by omega, rfl, p1 + 1, 10 * v + s2 - 48, fset F' 81 (nI (p1 + 1)), by rw [← e81]; rfl, GD_adv hG, by omega, Or.inl ⟨rfl, i + 1, by omega, rfl, by rw [← nI_1 i]; rfl, ?_⟩⟩
          rw [← hV, show 4 - i = (4 - (i + 1)) + 1 by omega, numv_mono g2, hs2]
        · refine br_t xc_eq0 ?_
          rw [hs] at g2
          have e : numv b n (4 - i) p1 v = (p1, v) := by
            rw [show 4 - i = (3 - i) + 1 by omega]
            exact cif_f g2
          exact ⟨0, by omega, rfl, p1, v, F', rfl, hG, hp1n, Or.inr ⟨rfl, rfl, rfl, by rw [← hV, e]⟩⟩
    · subst hV
      have hp1 : p + 1 ≤ p1 := hp1
      refine ⟨u, A, F', z, v, rfl, rfl, hG.2.2.1, by omega, fun _ => ?_, fun q => absurd (by omega) q⟩
      exact h _ _ (GD_add (acc := []) hG (by show z < p1; omega))
