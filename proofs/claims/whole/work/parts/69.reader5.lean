/-! ===== the class: the reader's parts, the fault ===== -/
theorem and255 (x : Int32) : ∃ y : Nat, y < 256 ∧ x &&& 255 = nI y := by
  refine ⟨x.toBitVec.toNat % 256, Nat.mod_lt _ (by decide), ?_⟩
  apply Int32.toBitVec_inj.mp
  apply BitVec.eq_of_toNat_eq
  rw [Int32.toBitVec_and, BitVec.toNat_and]
  show x.toBitVec.toNat &&& 255 = (x.toBitVec.toNat % 256) % 2 ^ 32
  rw [show (255 : Nat) = 2 ^ 8 - 1 from rfl, Nat.and_two_pow_sub_one_eq_mod]
  omega
theorem i2c_n : ∀ y : Fin 256, ((nI y.val).toUInt32 % 65536).toInt32 = nI y.val := by decide +kernel
theorem dg_nm {x : Int32} (h : isdg x) (u : Nat) : ¬ nmi u x < 9 ∧ ¬ x = 40 ∧ ¬ x = 33 := by
  obtain ⟨y, h1, h2, e⟩ := dg_nat h
  have ne : ∀ t : Nat, t < 2 ^ 31 → (t < 48 ∨ 57 < t) → ¬ x = nI t := fun t ht q e2 => by
    rw [e] at e2
    have := nI_inj (by omega) ht e2
    omega
  refine ⟨?_, ne 40 (by omega) (by omega), ne 33 (by omega) (by omega)⟩
  unfold nmi
  by_cases q : u = 1
  · rw [cif_t q, cif_f (show ¬ x = 110 from ne 110 (by omega) (by omega)), cif_f (show ¬ x = 107 from ne 107 (by omega) (by omega))]
    omega
  · rw [cif_f q, cif_f (show ¬ x = 108 from ne 108 (by omega) (by omega)), cif_f (show ¬ x = 115 from ne 115 (by omega) (by omega)), cif_f (show ¬ x = 109 from ne 109 (by omega) (by omega)), cif_f (show ¬ x = 107 from ne 107 (by omega) (by omega))]
    omega
theorem nm_m1 (u : Nat) : ¬ nmi u (-1) < 9 := by
  unfold nmi
  by_cases q : u = 1
  · rw [cif_t q, cif_f (by decide), cif_f (by decide)]
    omega
  · rw [cif_f q, cif_f (by decide), cif_f (by decide), cif_f (by decide), cif_f (by decide)]
    omega
/-- what stands behind an opening -/
noncomputable def OPr (b : Nat → Int32) (n u : Nat) (x : Int32) (p o : Nat) : PT := cif (x = 33) (cat2 (PR b n u 5 (p + 1) o) (fun q => (true, q, [-33]))) (cat2 (PR b n u 0 (p + 1) o) (fun q => cif (hr b n q = 41) (true, q + 1, []) (false, q, [])))
def sOp (e : Nat) : XS := fun as w post => ∃ (u : Bool) (A : XA) (F b : Nat → Int32) (n p z o : Nat) (x : Int32), as = [.ref 0, .int x, .int (nI o)] ∧ w = RX u A F ∧ RK A F b n p z ∧ p < n ∧ o ≤ 5 ∧ 5 < o + e ∧ ∀ r, r = OPr b n (uN u) x p o → (r.1 = true → ∀ A' F', GD A F z A' F' r.2.1 r.2.2 → post (some (.int 1)) (RX u A' F')) ∧ (r.1 = false → ∀ A' F', BD A F A' F' r.2.1 → post (some (.int 0)) (RX u A' F'))
set_option maxRecDepth 10000 in
set_option maxHeartbeats 1000000 in
theorem pX3_readOpened (e d : Nat) (hP : xCT d yX3_readPart cX3_readPart 4 (some .boolean) (sRd 5 e)) (hE : xCT d yX3_readEither cX3_readEither 4 (some .boolean) (sRd 0 e)) : xCT (d + 1) yX3_readOpened cX3_readOpened 4 (some .boolean) (sOp e) := by
  refine xmet0 (tb := tX3_readOpened) (fl := fX3) (kc := nX3) (gs := g0) (cl := xlk [(70, true, 2, xrcv 3 (sRd 5 e)), (46, true, 2, xrcv 3 (sRd 0 e)), (53, true, 1, xrcv 3 (sX3_sign)), (57, true, 2, xrcv 2 (sX2_add_RX))]) 400 (by decide) tX3_readOpened_ok fX3_ok nX3_ok g0_ok (xg_cons (k_X3_70 hP) (xg_cons (k_X3_46 hE) (xg_cons (k_X3_53 (mX3_sign d (by omega))) (xg_cons (k_X3_57 (mX2_add_RX d (by omega))) xg_nil)))) ?_
  rintro L xs as w Qp ⟨u, A, F, b, n, p, z, o, x, rfl, rfl, hK, hp, ho, he, h⟩
  have hn50 : n ≤ 50 := hK.2.1
  have hzp : z ≤ p := hK.2.2.2.2.2.1
  have h := h _ rfl
  generalize eR : OPr b n (uN u) x p o = R at h
  have hG1 := GD_adv (GD_rf hK)
  have hK2 := RK_of hK hG1 (by omega)
  have e81 : F 81 + 1 = nI (p + 1) := by rw [hK.2.2.1, nI_1]
  refine ⟨Nat.le_of_ble_eq_true rfl, ?_⟩
  refine And.intro (fun g => ?_) (fun g => ?_)
  · have g : ¬ x = 33 := g
    have hR : R = cat2 (PR b n (uN u) 0 (p + 1) o) (fun q => cif (hr b n q = 41) (true, q + 1, []) (false, q, [])) := by
      rw [← eR]
      exact cif_f g
    refine ⟨u, A, fset F 81 (nI (p + 1)), b, n, p + 1, z, o, rfl, by rw [← e81]; rfl, hK2, ho, he, fun r hrr => ⟨fun ok A2 F2 hG2 => ?_, fun bad A2 F2 hG2 => ?_⟩⟩
    · have hle : r.2.1 ≤ n := by rw [hrr]; exact PR_le _ _ _ _ (by omega)
      have hG3 : GD A F z A2 F2 r.2.1 r.2.2 := GD_sub (acc := []) hG1 hG2
      have hK3 := RK_of hK hG3 hle
      rw [← hrr, PT_t ok] at hR
      refine br_f xc_eq1 ?_
      refine ⟨u, A2, F2, b, n, r.2.1, rfl, rfl, hK3.1, hn50, hK3.2.2.1, by omega, hK3.2.2.2.2.2.2, fun v hv => ?_⟩
      refine And.intro (fun g2 => ?_) (fun g2 => ?_)
      · have g2 : v = 41 := g2
        rw [hv] at g2
        have hlt : r.2.1 < n := hr_lt g2 (by decide)
        have e1 : R = (true, r.2.1 + 1, r.2.2) := by
          rw [hR]
          show (match cif (hr b n r.2.1 = 41) (true, r.2.1 + 1, []) (false, r.2.1, []) with
            | (true, q2, qs) => (true, q2, r.2.2 ++ qs)
            | (false, q2, _) => (false, q2, [])) = _
          rw [cif_t g2]
          show (true, r.2.1 + 1, r.2.2 ++ []) = _
          rw [List.append_nil]
        have e82 : F2 81 + 1 = nI (r.2.1 + 1) := by rw [hG3.2.1, nI_1]
        have h9 := h.1 (by rw [e1]) A2 (fset F2 81 (nI (r.2.1 + 1))) (by rw [e1]; exact GD_adv hG3)
        rw [← e82] at h9
        exact ⟨rfl, h9⟩
      · have g2 : ¬ v = 41 := g2
        rw [hv] at g2
        have e1 : R = (false, r.2.1, []) := by
          rw [hR]
          show (match cif (hr b n r.2.1 = 41) (true, r.2.1 + 1, []) (false, r.2.1, []) with
            | (true, q2, qs) => (true, q2, r.2.2 ++ qs)
            | (false, q2, _) => (false, q2, [])) = _
          rw [cif_f g2]
        exact ⟨rfl, h.2 (by rw [e1]) A2 F2 (by rw [e1]; exact GD_bd (p1 := r.2.1) hG3 (by omega))⟩
    · have e1 : R = (false, r.2.1, []) := by
        rw [hR, ← hrr]
        exact cat2_f1 bad
      refine br_t xc_eq0 ?_
      exact ⟨rfl, h.2 (by rw [e1]) A2 F2 (by rw [e1]; exact BD_of hG1 hG2)⟩
  · have g : x = 33 := Classical.byContradiction g
    have hR : R = cat2 (PR b n (uN u) 5 (p + 1) o) (fun q => (true, q, [-33])) := by
      rw [← eR]
      exact cif_t g
    refine ⟨u, A, fset F 81 (nI (p + 1)), b, n, p + 1, z, o, rfl, by rw [← e81]; rfl, hK2, ho, he, fun r hrr => ⟨fun ok A2 F2 hG2 => ?_, fun bad A2 F2 hG2 => ?_⟩⟩
    · have hle : r.2.1 ≤ n := by rw [hrr]; exact PR_le _ _ _ _ (by omega)
      have hlen : p + 1 + r.2.2.length ≤ r.2.1 := by rw [hrr]; exact PR_len (by rw [← hrr]; exact ok)
      have hG3 : GD A F z A2 F2 r.2.1 r.2.2 := GD_sub (acc := []) hG1 hG2
      have e1 : R = (true, r.2.1, r.2.2 ++ [-33]) := by
        rw [hR, ← hrr, PT_t ok]
        rfl
      refine ⟨u, A2, F2, z + r.2.2.length, -33, rfl, rfl, hG3.2.2.1, by omega, fun _ => ?_, fun q => absurd (by omega) q⟩
      exact ⟨rfl, h.1 (by rw [e1]) _ _ (by rw [e1]; exact GD_add (p := r.2.1) hG3 (by omega))⟩
    · obtain ⟨z2, hz2, ez2⟩ := hG2.2.2.1
      have hB2 := BD_of hG1 hG2
      have e1 : R = (false, r.2.1, []) := by
        rw [hR, ← hrr]
        exact cat2_f1 bad
      refine ⟨u, A2, F2, z2, -33, rfl, rfl, ez2, hz2, fun hz => ?_, fun hz => ?_⟩
      · exact ⟨rfl, h.2 (by rw [e1]) _ _ (by rw [e1]; exact BD_add hB2 hz)⟩
      · exact ⟨rfl, h.2 (by rw [e1]) _ _ (by rw [e1]; exact hB2)⟩
theorem GD_one {A : XA} {F b : Nat → Int32} {n p z : Nat} (hK : RK A F b n p z) (x : Int32) : GD A F z (aset A 2 (upd (A 2) z x)) (fset (fset F 82 (nI (z + 1))) 81 (nI (p + 1))) (p + 1) [x] := by
  have h := GD_add (x := x) (GD_adv (GD_rf hK)) (by have := hK.2.2.2.2.2.1; show z + 0 < p + 1; omega)
  obtain ⟨h1, h2, h3, h4, h5, h6, h7⟩ := h
  exact ⟨h1, rfl, h3, h4, h5, fun q q1 q2 => (fsN q1).trans (fsN q2), h7⟩
set_option maxRecDepth 10000 in
set_option maxHeartbeats 1000000 in
theorem pX3_readPart (e d : Nat) (hd : 6 ≤ d) (hO : xCT d yX3_readOpened cX3_readOpened 4 (some .boolean) (sOp e)) : xCT (d + 1) yX3_readPart cX3_readPart 4 (some .boolean) (sRd 5 (e + 1)) := by
  refine xmet0 (tb := tX3_readPart) (fl := fX3) (kc := nX3) (gs := g0) (cl := xlk [(53, true, 1, xrcv 3 (sX3_sign)), (73, false, 1, sX3_isDigit), (76, true, 1, xrcv 3 (sX3_readNumber)), (79, true, 3, xrcv 3 (sOp e)), (83, true, 2, xrcvS (sJ0_indexOf_0f7a4)), (57, true, 2, xrcv 2 (sX2_add_RX))]) 400 (by decide) tX3_readPart_ok fX3_ok nX3_ok g0_ok (xg_cons (k_X3_53 (mX3_sign d (by omega))) (xg_cons (k_X3_73 (mX3_isDigit d (by omega))) (xg_cons (k_X3_76 (mX3_readNumber d (by omega))) (xg_cons (k_X3_79 hO) (xg_cons (k_X3_83 (mJ0_indexOf_0f7a4 d (by omega))) (xg_cons (k_X3_57 (mX2_add_RX d (by omega))) xg_nil)))))) ?_
  rintro L xs as w Qp ⟨u, A, F, b, n, p, z, o, rfl, rfl, hK, ho, he, h⟩
  have hn50 : n ≤ 50 := hK.2.1
  have hpn : p ≤ n := hK.2.2.2.1
  have hzp : z ≤ p := hK.2.2.2.2.2.1
  have h := h _ rfl
  rw [PR_5 hn50] at h
  refine ⟨Nat.le_of_ble_eq_true rfl, ?_⟩
  refine ⟨u, A, F, b, n, p, rfl, rfl, hK.1, hn50, hK.2.2.1, by omega, hK.2.2.2.2.2.2, fun v hv => ?_⟩
  rw [← hv] at h
  refine ⟨v, rfl, fun g => ?_, fun g => ?_⟩
  · refine br_f xc_eq1 ?_
    obtain ⟨d1, d2, d3⟩ := dg_nm g (uN u)
    rw [cif_f d2, cif_f d3, cif_f d1, cif_t g] at h
    refine ⟨u, A, F, b, n, p, z, rfl, rfl, hK, by rw [← hv]; exact g, fun A' F' hG => ?_⟩
    exact ⟨rfl, h.1 rfl A' F' hG⟩
  · refine br_t xc_eq0 ?_
    have opn : (v = 33 ∨ v = 40) → (cif (v = 40) (cif (o = 5) (false, p, []) (cat2 (PR b n (uN u) 0 (p + 1) (o + 1)) (fun q => cif (hr b n q = 41) (true, q + 1, []) (false, q, [])))) (cif (v = 33) (cif (o = 5) (false, p, []) (cat2 (PR b n (uN u) 5 (p + 1) (o + 1)) (fun q => (true, q, [-33])))) (cif (nmi (uN u) v < 9) (true, p + 1, [nI (10000 + nmi (uN u) v)]) (cif (isdg v) (true, (numv b n 4 p 0).1, [(numv b n 4 p 0).2]) (false, p, [])))) : PT) = cif (o = 5) (false, p, []) (OPr b n (uN u) v p (o + 1)) := fun q => by
      by_cases q40 : v = 40
      · have q33 : ¬ v = 33 := by rw [q40]; decide
        rw [cif_t q40]
        unfold OPr
        rw [cif_f q33]
      · have q33 : v = 33 := q.resolve_right q40
        rw [cif_f q40, cif_t q33]
        unfold OPr
        rw [cif_t q33]
    have inn : ∀ (q : v = 33 ∨ v = 40), p < n := fun q => by
      rw [hv] at q
      rcases q with q | q <;> exact hr_lt q (by decide)
    refine And.intro (fun g1 => ?_) (fun g1 => ?_)
    · have g1 : v = 33 := g1
      rw [opn (Or.inl g1)] at h
      have hpn2 := inn (Or.inl g1)
      refine And.intro (fun g3 => ?_) (fun g3 => ?_)
      · have := ge_n (x := 5) (k := 5) rfl (by omega) (by omega) g3
        rw [cif_t (show o = 5 by omega)] at h
        exact ⟨rfl, h.2 rfl A F (GD_bd (p1 := p) (GD_rf hK) (by omega))⟩
      · have hlt := nge_n (x := 5) (k := 5) rfl (by omega) (by omega) g3
        rw [cif_f (show ¬ o = 5 by omega)] at h
        refine ⟨u, A, F, b, n, p, z, o + 1, v, by rw [← nI_1 o]; rfl, rfl, hK, hpn2, by omega, by omega, fun r hrr => ⟨fun ok A2 F2 hG2 => ?_, fun bad A2 F2 hG2 => ?_⟩⟩
        · rw [← hrr] at h
          refine br_f xc_eq1 ?_
          exact ⟨rfl, h.1 ok A2 F2 hG2⟩
        · rw [← hrr] at h
          refine br_t xc_eq0 ?_
          exact ⟨rfl, h.2 bad A2 F2 hG2⟩
    · have g1 : ¬ v = 33 := g1
      refine And.intro (fun g2 => ?_) (fun g2 => ?_)
      · have g2 : ¬ v = 40 := g2
        rw [cif_f g2, cif_f g1] at h
        have fail : ¬ nmi (uN u) v < 9 → Qp (some (.int 0)) (RX u A F) := fun q => by
          rw [cif_f q, cif_f g] at h
          exact h.2 rfl A F (GD_bd (p1 := p) (GD_rf hK) (by omega))
        refine And.intro (fun g3 => ?_) (fun g3 => ?_)
        · have g3 : 0 ≤ v := g3
          have hlt : p < n := by
            refine Classical.byContradiction (fun q => ?_)
            have e : hr b n p = -1 := by unfold hr; rw [if_neg q]
            rw [hv, e] at g3
            exact absurd g3 (by decide)
          obtain ⟨y, hy, ey⟩ := and255 (A 5 p)
          have evy : v = nI y := by
            rw [hv]
            unfold hr
            rw [if_pos hlt, ← hK.2.2.2.2.2.2 p hlt, ey]
          have ec : (v.toUInt32 % 65536).toInt32 = nI y := by rw [evy]; exact i2c_n ⟨y, hy⟩
          have e81 : F 81 + 1 = nI (p + 1) := by rw [hK.2.2.1, nI_1]
          have e10 : ∀ k : Nat, 10000 + nI k = nI (10000 + k) := fun k => by rw [show (10000 : Int32) = nI 10000 from rfl, nI_add]
          cases u
          · refine ⟨false, y, by rw [← ec], hy, fun q => ?_, fun q => ?_⟩
            · rw [← evy] at q ⊢
              rw [cif_t q] at h
              have hk4 : nmi (uN false) v < 4 := nmi4 q
              refine And.intro (fun g5 => ?_) (fun g5 => ?_)
              · refine ⟨false, A, F, z, nI (10000 + nmi (uN false) v), by rw [← e10]; rfl, rfl, hK.2.2.2.2.1, by omega, fun _ => ?_, fun q => absurd (by omega) q⟩
                have h9 := h.1 rfl _ _ (GD_one hK (nI (10000 + nmi (uN false) v)))
                rw [← e81] at h9
                exact ⟨rfl, h9⟩
              · exact absurd (nI_pos' (by omega)) g5
            · rw [← evy] at q
              refine And.intro (fun g5 => absurd (show (0 : Int32) ≤ -1 from g5) (by decide)) (fun g5 => ?_)
              exact ⟨rfl, fail q⟩
          · refine ⟨true, y, by rw [← ec], hy, fun q => ?_, fun q => ?_⟩
            · rw [← evy] at q ⊢
              rw [cif_t q] at h
              have hk4 : nmi (uN true) v < 4 := nmi4 q
              refine And.intro (fun g5 => ?_) (fun g5 => ?_)
              · refine ⟨true, A, F, z, nI (10000 + nmi (uN true) v), by rw [← e10]; rfl, rfl, hK.2.2.2.2.1, by omega, fun _ => ?_, fun q => absurd (by omega) q⟩
                have h9 := h.1 rfl _ _ (GD_one hK (nI (10000 + nmi (uN true) v)))
                rw [← e81] at h9
                exact ⟨rfl, h9⟩
              · exact absurd (nI_pos' (by omega)) g5
            · rw [← evy] at q
              refine And.intro (fun g5 => absurd (show (0 : Int32) ≤ -1 from g5) (by decide)) (fun g5 => ?_)
              exact ⟨rfl, fail q⟩
        · have g3 : ¬ 0 ≤ v := g3
          have hnlt : ¬ p < n := by
            intro q
            obtain ⟨y, hy, ey⟩ := and255 (A 5 p)
            have evy : v = nI y := by
              rw [hv]
              unfold hr
              rw [if_pos q, ← hK.2.2.2.2.2.2 p q, ey]
            exact g3 (by rw [evy]; exact nI_pos' (by omega))
          have e : v = -1 := by
            rw [hv]
            unfold hr
            rw [if_neg hnlt]
          refine And.intro (fun g5 => absurd (show (0 : Int32) ≤ -1 from g5) (by decide)) (fun g5 => ?_)
          exact ⟨rfl, fail (by rw [e]; exact nm_m1 _)⟩
      · have g2 : v = 40 := Classical.byContradiction g2
        rw [opn (Or.inr g2)] at h
        have hpn2 := inn (Or.inr g2)
        refine And.intro (fun g3 => ?_) (fun g3 => ?_)
        · have := ge_n (x := 5) (k := 5) rfl (by omega) (by omega) g3
          rw [cif_t (show o = 5 by omega)] at h
          exact ⟨rfl, h.2 rfl A F (GD_bd (p1 := p) (GD_rf hK) (by omega))⟩
        · have hlt := nge_n (x := 5) (k := 5) rfl (by omega) (by omega) g3
          rw [cif_f (show ¬ o = 5 by omega)] at h
          refine ⟨u, A, F, b, n, p, z, o + 1, v, by rw [← nI_1 o]; rfl, rfl, hK, hpn2, by omega, by omega, fun r hrr => ⟨fun ok A2 F2 hG2 => ?_, fun bad A2 F2 hG2 => ?_⟩⟩
          · rw [← hrr] at h
            refine br_f xc_eq1 ?_
            exact ⟨rfl, h.1 ok A2 F2 hG2⟩
          · rw [← hrr] at h
            refine br_t xc_eq0 ?_
            exact ⟨rfl, h.2 bad A2 F2 hG2⟩
theorem sRd_0 (c d : Nat) (y : MethodName) (b : ByteArray) (nL : Nat) (rt : Option FieldType) : xCT d y b nL rt (sRd c 0) := xCT_f (by
  rintro as w post ⟨_, _, _, _, _, _, _, _, _, _, _, h1, h2, _⟩
  omega)
theorem rdAll : ∀ e d, 8 * e + 6 ≤ d → xCT d yX3_readPart cX3_readPart 4 (some .boolean) (sRd 5 e) ∧ xCT d yX3_readEither cX3_readEither 4 (some .boolean) (sRd 0 e)
  | 0, d, _ => ⟨sRd_0 _ _ _ _ _ _, sRd_0 _ _ _ _ _ _⟩
  | e + 1, d, hd => by
    have part : ∀ d', 8 * e + 8 ≤ d' → xCT d' yX3_readPart cX3_readPart 4 (some .boolean) (sRd 5 (e + 1)) := fun d' h' => by
      obtain ⟨f, rfl⟩ : ∃ f, d' = f + 2 := ⟨d' - 2, by omega⟩
      have ih := rdAll e f (by omega)
      exact pX3_readPart e (f + 1) (by omega) (pX3_readOpened e f ih.1 ih.2)
    refine ⟨part d (by omega), ?_⟩
    obtain ⟨f, rfl⟩ : ∃ f, d = f + 5 := ⟨d - 5, by omega⟩
    exact pX3_readEither _ _ (pX3_readBoth _ _ (pX3_readCompared _ _ (pX3_readSum _ _ (pX3_readProduct _ _ (part f (by omega))))))
