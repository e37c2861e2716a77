/-! ===== the class: sums ===== -/
noncomputable def vrw (av kind m l s : Int32) : Int64 := cif (kind = 1) (l.toInt64 + m.toInt64) (cif (kind = 2) (l.toInt64 + s.toInt64) (cif (kind = 3) (gat l s) (cif (kind = 4) (l.toInt64 + s.toInt64 + m.toInt64) (cif (kind = 5) (cif (gat l s < s.toInt64) s.toInt64 (gat l s)) (cif (kind = 6) (l.toInt64 + m.toInt64 + av.toInt64) l.toInt64)))))
theorem vraw_vrw (d : Nat → Int32) (kind m l s k : Int32) : vraw d kind m l s k = vrw (addsV d l s m k) kind m l s := rfl
noncomputable def adV (ps : List Int32) (l s m k : Int32) : Int32 := cif (ps = []) 0 (VV (nms l s m k) ps)
def sX1_sumOf : XS := fun as w post => ∃ (A : XA) (F : Nat → Int32) (ps : List Int32) (kind m l s k : Int32), as = [.ref 0, .int kind, .int m, .int l, .int s, .int k] ∧ w = CH A F ∧ LH (A 11) (F 20) ps ∧ ∀ A', (∀ p, p ≠ 12 → p ≠ 13 → A' p = A p) → post (some (.long (vrw (adV ps l s m k) kind m l s))) (CH A' F)
set_option maxRecDepth 10000 in
set_option maxHeartbeats 1000000 in
theorem mX1_sumOf (d : Nat) (hd : 2 ≤ d) : xCT d yX1_sumOf cX1_sumOf 7 (some .long) sX1_sumOf := by
  obtain ⟨d, rfl⟩ : ∃ e, d = e + 1 := ⟨d - 1, by omega⟩
  refine xmet (tb := tX1_sumOf) (fl := fX1) (kc := nX1) (gs := g0) (cl := xlk [(78, true, 1, xrcv 2 (xfrE sX2_isMissing)), (82, true, 5, xrcv 2 (xfrE sX2_valueOf)), (72, false, 2, xMax)]) (by decide) tX1_sumOf_ok fX1_ok nX1_ok g0_ok (xg_cons (k_X1_78 (xCT_frE (mX2_isMissing d (by omega)))) (xg_cons (k_X1_82 (xCT_frE (mX2_valueOf d (by omega)))) (xg_cons (k_X1_72_max (xrm_ok d)) xg_nil))) ?_
  rintro L xs as w Qp ⟨A, F, ps, kind, m1, l, s, k, rfl, rfl, hL, h⟩
  have sl : ∀ {v : Nat}, v < 2 ^ 31 → kind.toInt = (v : Int) → kind = nI v := fun hv e => tI _ hv e
  refine ⟨Nat.le_of_ble_eq_true rfl, 400, xlk [(16, 7)], fun m pc ls st w => pc = 16 ∧ st = [] ∧ ∃ G : Int32, G.toInt64 = gat l s ∧ ls = [(0, .ref 0), (1, .int kind), (2, .int m1), (3, .int l), (4, .int s), (5, .int k), (6, .int G)] ∧ w = CH A F, ?_, ?_⟩
  · refine And.intro (fun g => ?_) (fun g => ?_)
    · have g : l = 0 := g
      exact ⟨0, rfl, rfl, l, (cif_f (fun q => q.1 g)).symm, rfl, rfl⟩
    · have g : ¬ l = 0 := g
      refine And.intro (fun g2 => ?_) (fun g2 => ?_)
      · have g2 : s = 0 := g2
        exact ⟨0, rfl, rfl, l, (cif_f (fun q => q.2 g2)).symm, rfl, rfl⟩
      · have g2 : ¬ s = 0 := g2
        exact ⟨0, rfl, rfl, 0, (cif_t ⟨g, g2⟩).symm, rfl, rfl⟩
  · rintro m pc m9 ls st w hc ⟨rfl, rfl, G, hG, rfl, rfl⟩
    have hA := h A (fun _ _ _ => rfl)
    refine And.intro (And.intro (fun g => ?_) (And.intro (fun g => ?_) (And.intro (fun g => ?_) (And.intro (fun g => ?_) (And.intro (fun g => ?_) (And.intro (fun g => ?_) trivial)))))) (fun g => ?_)
    · have e : kind = 1 := sl (v := 1) (by decide) g
      subst e
      rw [show vrw (adV ps l s m1 k) 1 m1 l s = l.toInt64 + m1.toInt64 from cif_t rfl] at hA
      exact hA
    · have e : kind = 2 := sl (v := 2) (by decide) g
      subst e
      rw [show vrw (adV ps l s m1 k) 2 m1 l s = l.toInt64 + s.toInt64 from (cif_f (by decide)).trans (cif_t rfl)] at hA
      exact hA
    · have e : kind = 3 := sl (v := 3) (by decide) g
      subst e
      rw [show vrw (adV ps l s m1 k) 3 m1 l s = gat l s from (cif_f (by decide)).trans ((cif_f (by decide)).trans (cif_t rfl)), ← hG] at hA
      exact hA
    · have e : kind = 4 := sl (v := 4) (by decide) g
      subst e
      rw [show vrw (adV ps l s m1 k) 4 m1 l s = l.toInt64 + s.toInt64 + m1.toInt64 from (cif_f (by decide)).trans ((cif_f (by decide)).trans ((cif_f (by decide)).trans (cif_t rfl)))] at hA
      exact hA
    · have e : kind = 5 := sl (v := 5) (by decide) g
      subst e
      rw [show vrw (adV ps l s m1 k) 5 m1 l s = cif (gat l s < s.toInt64) s.toInt64 (gat l s) from (cif_f (by decide)).trans ((cif_f (by decide)).trans ((cif_f (by decide)).trans ((cif_f (by decide)).trans (cif_t rfl)))), ← hG] at hA
      show Qp (some (.long (if s < G then G else s).toInt64)) (CH A F)
      have e2 : (if s < G then G else s).toInt64 = cif (G.toInt64 < s.toInt64) s.toInt64 G.toInt64 := by
        by_cases q : s < G
        · rw [if_pos q, cif_f]
          rw [fa_wide_lt]
          exact (fa_of_lt q).2.2.1
        · rw [if_neg q]
          by_cases q2 : G < s
          · rw [cif_t ((fa_wide_lt _ _).mpr q2)]
          · rw [cif_f (fun q3 => q2 ((fa_wide_lt _ _).mp q3))]
            rcases fa_three s G with q3 | q3 | q3
            · exact absurd q3 q
            · rw [q3]
            · exact absurd q3 q2
      rw [e2]
      exact hA
    · have e : kind = 6 := sl (v := 6) (by decide) g
      subst e
      have e6 : vrw (adV ps l s m1 k) 6 m1 l s = l.toInt64 + m1.toInt64 + (adV ps l s m1 k).toInt64 := (cif_f (by decide)).trans ((cif_f (by decide)).trans ((cif_f (by decide)).trans ((cif_f (by decide)).trans ((cif_f (by decide)).trans (cif_t rfl)))))
      rw [e6] at h
      refine ⟨[10, 11, 12, 13], [.ref 0], LW (A 11) (A 12) (A 13) (F 20), rfl, rfl, rfl, A 11, A 12, A 13, F 20, rfl, rfl, fun g => ?_, fun g => ?_⟩
      · have hps := (LH_z hL).mp g
        refine br_f xc_eq1 ?_
        have hq := h A (fun _ _ _ => rfl)
        rw [show adV ps l s m1 k = 0 from cif_t hps] at hq
        exact hq
      · have hps : ¬ ps = [] := fun q => g ((LH_z hL).mpr q)
        refine br_t xc_eq0 ?_
        refine ⟨[10, 11, 12, 13], [.ref 0, .int l, .int s, .int m1, .int k], LW (A 11) (A 12) (A 13) (nI ps.length), rfl, by rw [← hL.1]; rfl, rfl, A 11, A 12, A 13, ps, l, s, m1, k, VV (nms l s m1 k) ps, rfl, rfl, hL.2.1, hL.2.2.1, hL.2.2.2.1, LH_ev hL hps _, fun s' n' => ?_⟩
        have hq := h (aset (aset A 12 s') 13 n') (fun p p1 p2 => (aset_n p2).trans (aset_n p1))
        rw [show adV ps l s m1 k = VV (nms l s m1 k) ps from cif_f hps] at hq
        have e := hL.1
        rw [← e]
        exact hq
    · have nk : ∀ {v : Nat}, 1 ≤ v → v ≤ 6 → ¬ kind = nI v := by
        intro v h1 h6 q
        have g : kind.toInt < 1 ∨ 6 < kind.toInt := g
        rw [q, nI_toInt (by omega)] at g
        omega
      have e : vrw (adV ps l s m1 k) kind m1 l s = l.toInt64 := (cif_f (nk (v := 1) (by omega) (by omega))).trans ((cif_f (nk (v := 2) (by omega) (by omega))).trans ((cif_f (nk (v := 3) (by omega) (by omega))).trans ((cif_f (nk (v := 4) (by omega) (by omega))).trans ((cif_f (nk (v := 5) (by omega) (by omega))).trans (cif_f (nk (v := 6) (by omega) (by omega)))))))
      rw [e] at hA
      exact hA
