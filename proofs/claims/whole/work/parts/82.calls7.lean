/-! ===== the class's calls: move, begin, voice ===== -/
theorem stand_q {z : Nat} {i n : Int32} (hz : z ≤ 40) : (¬ i < 0 ∧ ¬ n < 0 ∧ i ≤ nI z ∧ n ≤ nI z - i) ↔ ¬ (n < 0 ∨ i < 0 ∨ nI z - i < n) := by
  constructor
  · rintro ⟨h1, h2, h3, h4⟩ (q | q | q)
    · exact h2 q
    · exact h1 q
    · exact (fa_of_lt q).2.1 h4
  · intro h
    have h1 : ¬ i < 0 := fun q => h (Or.inr (Or.inl q))
    have h2 : ¬ n < 0 := fun q => h (Or.inl q)
    have h4 : n ≤ nI z - i := fa_of_nlt (fun q => h (Or.inr (Or.inr q)))
    refine ⟨h1, h2, ?_, h4⟩
    have a1 := fa_of_nlt h1
    have a2 := fa_of_nlt h2
    rw [fa_le] at a1 a2 h4 ⊢
    have b1 : (0 : Int) ≤ i.toInt := a1
    have b2 : (0 : Int) ≤ n.toInt := a2
    have b3 := i.toInt_lt
    have e : (nI z - i).toInt = (z : Int) - i.toInt := by
      rw [Int32.toInt_sub, nI_toInt (by omega)]
      exact Int.bmod_eq_of_le (by omega) (by omega)
    rw [e] at h4
    rw [nI_toInt (by omega)]
    omega
theorem sub_le {z : Nat} {i n : Int32} (hz : z ≤ 40) (h : ¬ i < 0 ∧ ¬ n < 0 ∧ i ≤ nI z ∧ n ≤ nI z - i) : ∃ a m : Nat, i = nI a ∧ n = nI m ∧ a + m ≤ z := by
  obtain ⟨h1, h2, h3, h4⟩ := h
  obtain ⟨a, ha, ea⟩ := rg (c := z) (by omega) (fa_of_nlt h1) h3
  subst ea
  rw [pk_sub ha] at h4
  obtain ⟨m, hm, em⟩ := rg (c := z - a) (by omega) (fa_of_nlt h2) h4
  exact ⟨a, m, rfl, em, by omega⟩
def sX9_move : XS := fun as w post => ∃ (s t u : Bool) (A : XA) (F : Nat → Int32) (mA : XA) (mF : Nat → Int32) (c n k : Nat) (x i y j n0 : Int32), as = [.ref 0, .int x, .int i, .int y, .int j, .int n0] ∧ w = CW s t u A F ∧ CI mA mF n k ∧ Rel mA mF A F ∧ Aux (mA 1) A F c ∧ c < 2 ^ 28 ∧ cQ (qmove x i y j n0 mA mF) c post
set_option maxRecDepth 10000 in
set_option maxHeartbeats 1000000 in
theorem mX9_move (d : Nat) (hd : 2 ≤ d) : xCT d yX9_move cX9_move 6 (some .int) sX9_move := by
  obtain ⟨d, rfl⟩ : ∃ e, d = e + 1 := ⟨d - 1, by omega⟩
  refine xmet0 (tb := tX9_move) (fl := fX9) (kc := nX9) (gs := g0) (cl := xlk [(145, false, 1, sX9_isSheet), (86, true, 2, xrcv 9 (sX9_fail)), (148, true, 2, xrcv 6 (sX6_isMissing_W)), (316, true, 3, xrcv 6 (sX6_areAlike_W)), (319, true, 4, xrcv 6 (sX6_stand_W)), (322, true, 6, xrcv 6 (sX6_carry_W))]) 400 (by decide) tX9_move_ok fX9_ok nX9_ok g0_ok (xg_cons (k_X9_145 (mX9_isSheet d (by omega))) (xg_cons (k_X9_86 (mX9_fail d (by omega))) (xg_cons (k_X9_148 (mX6_isMissing_W d (by omega))) (xg_cons (k_X9_316 (mX6_areAlike_W d (by omega))) (xg_cons (k_X9_319 (mX6_stand_W d (by omega))) (xg_cons (k_X9_322 (mX6_carry_W d (by omega))) xg_nil)))))) ?_
  rintro L xs as w Qp ⟨s, t, u, A, F, mA, mF, c, n, k, x, i, y, j, n0, rfl, rfl, hC, hR, hX, hc, h⟩
  obtain ⟨hn, hn2, hn12, hk, hk8, hF11, hF12, hA, hKV, h54, h58⟩ := ctx hC hR hX
  refine ⟨Nat.le_of_ble_eq_true rfl, ?_⟩
  have bad1 : ¬ (isH x ∧ isH y) → Qp (some (.int (lo 1))) (CW s t u (aset A 82 (upd (A 82) 1 (A 82 1 + 1))) F) := fun q => cQ_e h (cif_f' q rfl) hR hX
  refine ⟨x, rfl, fun a ha ea => ?_, fun g => ?_⟩
  · subst ea
    refine br_f xc_eq1 ?_
    refine ⟨y, rfl, fun b hb eb => ?_, fun g => ?_⟩
    · subst eb
      refine br_t xc_ne1 ?_
      have eca : (nI a).toNatClampNeg = a := cl (by omega)
      have ecb : (nI b).toNatClampNeg = b := cl (by omega)
      obtain ⟨a66, a67⟩ := hR.2.2.2.2.1 a ha
      obtain ⟨b66, b67⟩ := hR.2.2.2.2.1 b hb
      obtain ⟨za, hza, eza⟩ := hC.2.2.2.1 a ha
      obtain ⟨zb, hzb, ezb⟩ := hC.2.2.2.1 b hb
      have bad2 : (mA 15 a = 0 ∨ mA 15 b = 0) → Qp (some (.int (lo 2))) (CW s t u (aset A 82 (upd (A 82) 2 (A 82 2 + 1))) F) := fun q => cQ_e h (cif_t' ⟨isH_i ha, isH_i hb⟩ (cif_t' (by rw [eca, ecb]; exact q) rfl)) hR hX
      refine ⟨s, t, u, A, F, a, rfl, rfl, ha, fun g => ?_, fun g => ?_⟩
      · refine br_t xc_ne1 ?_
        refine ⟨s, t, u, A, F, 2, rfl, rfl, by decide, by decide, ?_⟩
        exact bad2 (Or.inl (by rw [← a66]; exact g))
      · refine br_f xc_ne0 ?_
        refine ⟨s, t, u, A, F, b, rfl, rfl, hb, fun g2 => ?_, fun g2 => ?_⟩
        · refine br_f xc_eq1 ?_
          refine ⟨s, t, u, A, F, 2, rfl, rfl, by decide, by decide, ?_⟩
          exact bad2 (Or.inr (by rw [← b66]; exact g2))
        · refine br_t xc_eq0 ?_
          have nm : ¬ (mA 15 (nI a).toNatClampNeg = 0 ∨ mA 15 (nI b).toNatClampNeg = 0) := by
            rw [eca, ecb, ← a66, ← b66]
            exact fun q => q.elim g g2
          refine ⟨s, t, u, A, F, a, b, rfl, rfl, ha, hb, fun g3 => ?_, fun g3 => ?_⟩
          · refine br_t xc_ne1 ?_
            have al : mA 15 (nI a).toNatClampNeg = mA 15 (nI b).toNatClampNeg := by rw [eca, ecb, ← a66, ← b66]; exact g3
            have bad3 : (n0 < 0 ∨ i < 0 ∨ j < 0 ∨ mA 16 a - i < n0 ∨ mA 16 b - j < n0) → Qp (some (.int (lo 1))) (CW s t u (aset A 82 (upd (A 82) 1 (A 82 1 + 1))) F) := fun q => cQ_e h (cif_t' ⟨isH_i ha, isH_i hb⟩ (cif_f' nm (cif_t' al (cif_t' (by rw [eca, ecb]; exact q) rfl)))) hR hX
            refine ⟨s, t, u, A, F, a, i, n0, rfl, rfl, ha, fun g4 => ?_, fun g4 => ?_⟩
            · refine br_f xc_eq1 ?_
              rw [a67, eza] at g4
              refine ⟨s, t, u, A, F, b, j, n0, rfl, rfl, hb, fun g5 => ?_, fun g5 => ?_⟩
              · refine br_t xc_ne1 ?_
                rw [b67, ezb] at g5
                have q4 := (stand_q (by omega)).mp g4
                have q5 := (stand_q (by omega)).mp g5
                obtain ⟨p, m, ep, em, hpm⟩ := sub_le (by omega) g4
                obtain ⟨p2, m2, ep2, em2, hpm2⟩ := sub_le (by omega) g5
                have emm : m2 = m := nI_inj (by omega) (by omega) (em2.symm.trans em)
                subst emm ep em ep2
                have ecp : (nI p).toNatClampNeg = p := cl (by omega)
                have ecp2 : (nI p2).toNatClampNeg = p2 := cl (by omega)
                have ecm : (nI m2).toNatClampNeg = m2 := cl (by omega)
                refine ⟨s, t, u, A, F, a, b, p, p2, m2, rfl, rfl, ha, hb, by omega, by omega, fun A' hS ho hh => ?_⟩
                refine cQ_sh (mA' := aset mA 17 (va_cpy (mA 17) (mA 17) (40 * a + p) (40 * b + p2) m2)) h (cif_t' ⟨isH_i ha, isH_i hb⟩ (cif_f' nm (cif_t' al (cif_f' ?_ (by rw [eca, ecb, ecp, ecp2, ecm]))))) hR hX (sm_w hS rfl) rfl rfl rfl rfl (fun x hx => by rw [hS 66 rfl, hS 67 rfl]; exact hR.2.2.2.2.1 x hx) (fun x l hx hl => ?_)
                · rw [eca, ecb, eza, ezb]
                  rintro (q | q | q | q | q)
                  · exact q4 (Or.inl q)
                  · exact q4 (Or.inr (Or.inl q))
                  · exact q5 (Or.inr (Or.inl q))
                  · exact q4 (Or.inr (Or.inr q))
                  · exact q5 (Or.inr (Or.inr q))
                · show A' (69 + x) l = va_cpy (mA 17) (mA 17) (40 * a + p) (40 * b + p2) m2 (40 * x + l)
                  by_cases q : x = b
                  · subst q
                    rw [hh]
                    by_cases q2 : p2 ≤ l ∧ l < p2 + m2
                    · rw [pk_cpy_in q2.1 q2.2, pk_cpy_in (by omega) (by omega), hR.2.2.2.2.2.1 a (p + (l - p2)) ha (by omega)]
                      congr 1
                      omega
                    · rw [pk_cpy_out (by omega), pk_cpy_out (by omega)]
                      exact hR.2.2.2.2.2.1 x l hx hl
                  · rw [ho x hx q, pk_cpy_out (by omega)]
                    exact hR.2.2.2.2.2.1 x l hx hl
              · refine br_f xc_ne0 ?_
                rw [b67, ezb] at g5
                refine ⟨s, t, u, A, F, 1, rfl, rfl, by decide, by decide, ?_⟩
                refine bad3 ?_
                have := Classical.byContradiction (fun q => g5 ((stand_q (by omega)).mpr q))
                rw [eza, ezb]
                rcases this with q | q | q
                · exact Or.inl q
                · exact Or.inr (Or.inr (Or.inl q))
                · exact Or.inr (Or.inr (Or.inr (Or.inr q)))
            · refine br_t xc_eq0 ?_
              rw [a67, eza] at g4
              refine ⟨s, t, u, A, F, 1, rfl, rfl, by decide, by decide, ?_⟩
              refine bad3 ?_
              have := Classical.byContradiction (fun q => g4 ((stand_q (by omega)).mpr q))
              rw [eza, ezb]
              rcases this with q | q | q
              · exact Or.inl q
              · exact Or.inr (Or.inl q)
              · exact Or.inr (Or.inr (Or.inr (Or.inl q)))
          · refine br_f xc_ne0 ?_
            refine ⟨s, t, u, A, F, 5, rfl, rfl, by decide, by decide, ?_⟩
            exact cQ_e h (cif_t' ⟨isH_i ha, isH_i hb⟩ (cif_f' nm (cif_f' (by rw [eca, ecb, ← a66, ← b66]; exact g3) rfl))) hR hX
    · refine br_f xc_ne0 ?_
      refine ⟨s, t, u, A, F, 1, rfl, rfl, by decide, by decide, ?_⟩
      exact bad1 (fun q => isH_n g q.2)
  · refine br_t xc_eq0 ?_
    refine ⟨s, t, u, A, F, 1, rfl, rfl, by decide, by decide, ?_⟩
    exact bad1 (fun q => isH_n g q.1)
/-- what voices leave as it was -/
def VP (σ' σ : VS) : Prop := (∀ p, p ≠ 14 → σ'.1 p = σ.1 p) ∧ (∀ q, q ≠ 24 → σ'.2 q = σ.2 q)
theorem VP_rn {σ : VS} (x : Int32) : VP (rn x σ) σ := by
  unfold rn
  by_cases g : 40 ≤ σ.2 24
  · rw [cif_t g]
    exact ⟨fun _ _ => rfl, fun _ _ => rfl⟩
  · rw [cif_f g]
    exact ⟨fun p hp => asN hp, fun q hq => fsN hq⟩
theorem VP_t {σ σ1 σ2 : VS} (h1 : VP σ1 σ) (h2 : VP σ2 σ1) : VP σ2 σ := ⟨fun p hp => (h2.1 p hp).trans (h1.1 p hp), fun q hq => (h2.2 q hq).trans (h1.2 q hq)⟩
theorem VP_hrs {σ : VS} (w q : Nat) (x : Int32) : VP (hrs w q x σ).2 σ := by
  unfold hrs
  split
  · exact VP_rn 10
  · exact VP_t (VP_rn 30) (VP_rn 10)
  · exact VP_t (VP_t (VP_rn 50) (VP_rn 30)) (VP_rn 10)
  · exact VP_rn 10
theorem VP_rss {σ : VS} (m : Int32) (q : Nat) (x : Int32) : VP (rss m q x σ).2 σ := by
  unfold rss
  split
  · exact VP_t (VP_rn 40) (VP_rn 12)
  · exact VP_t (VP_rn 40) (VP_rn 12)
  · exact VP_rn 12
theorem VP_vc0 {σ : VS} (w a : Nat) (x : Int32) : VP (vc0 w a x σ).2 σ := VP_t (VP_rn 11) (VP_hrs w a x)
theorem VP_vc1 {σ : VS} (w a : Nat) (m x : Int32) : VP (vc1 w a m x σ).2 σ := VP_t (VP_t (VP_rn 20) (VP_vc0 w a x)) (VP_rss m a 1)
theorem VP_vcs {σ : VS} (w a : Nat) (m : Int32) (q : Nat) (x : Int32) : VP (vcs w a m q x σ).2 σ := by
  unfold vcs
  split
  · exact VP_vc1 w a m x
  · exact VP_t (VP_rn 70) (VP_vc1 w a m x)
  · exact VP_vc0 w a x
theorem VP_tl0 {σ : VS} (w a : Nat) (m x : Int32) : VP (tl0 w a m x σ).2 σ := VP_t (VP_t (VP_rn 13) (VP_vcs w a m a x)) (VP_rss m a x)
theorem VP_gv {σ : VS} (act w a : Nat) (m : Int32) (q : Nat) (x : Int32) : VP (gv act w a m q x σ).2 σ := by
  unfold gv
  split
  · exact VP_hrs w q x
  · exact VP_vcs w a m q x
  · exact VP_rss m q x
  · unfold tls
    split
    · exact VP_t (VP_t (VP_rn 60) (VP_tl0 w a m x)) (VP_hrs w a 2)
    · exact VP_t (VP_t (VP_rn 71) (VP_vcs w a m a x)) (VP_tl0 w a m x)
    · exact VP_tl0 w a m x
def sX9_voice : XS := fun as w post => ∃ (s t u : Bool) (A : XA) (F : Nat → Int32) (mA : XA) (mF : Nat → Int32) (c n k : Nat) (x y z : Int32), as = [.ref 0, .int x, .int y, .int z] ∧ w = CW s t u A F ∧ CI mA mF n k ∧ Rel mA mF A F ∧ Aux (mA 1) A F c ∧ c < 2 ^ 28 ∧ cQ (qvoice x y z mA mF) c post
set_option maxRecDepth 10000 in
set_option maxHeartbeats 1000000 in
theorem mX9_voice (d : Nat) (hd : 30 ≤ d) : xCT d yX9_voice cX9_voice 4 (some .int) sX9_voice := by
  obtain ⟨d, rfl⟩ : ∃ e, d = e + 1 := ⟨d - 1, by omega⟩
  refine xmet0 (tb := tX9_voice) (fl := fX9) (kc := nX9) (gs := g0) (cl := xlk [(117, true, 2, xrcv 1 (sX1_has_W)), (82, false, 3, sX9_within), (86, true, 2, xrcv 9 (sX9_fail)), (299, true, 5, xrcv 8 (sX8_sound_W))]) 400 (by decide) tX9_voice_ok fX9_ok nX9_ok g0_ok (xg_cons (k_X9_117 (mX1_has_W d (by omega))) (xg_cons (k_X9_82 (mX9_within d (by omega))) (xg_cons (k_X9_86 (mX9_fail d (by omega))) (xg_cons (k_X9_299 (mX8_sound_W d (by omega))) xg_nil)))) ?_
  rintro L xs as w Qp ⟨s, t, u, A, F, mA, mF, c, n, k, x, y, z, rfl, rfl, hC, hR, hX, hc, h⟩
  obtain ⟨hn, hn2, hn12, hk, hk8, hF11, hF12, hA, hKV, h54, h58⟩ := ctx hC hR hX
  refine ⟨Nat.le_of_ble_eq_true rfl, ?_⟩
  refine ⟨s, t, u, A, F, x, k, rfl, rfl, hF12, hk8, fun i hi es => ?_, fun g => ?_⟩
  · subst es
    refine br_f xc_eq1 ?_
    refine ⟨y, 0, 3, rfl, fun g1 g2 => ?_, fun g => ?_⟩
    · refine br_t xc_ne1 ?_
      obtain ⟨act, hact, eact⟩ := rg (c := 3) (by omega) g1 g2
      subst eact
      obtain ⟨a, ha, ea⟩ := (hC.1.2.2.2.2.2.1 i hi).1
      have ea : mA 1 (8 + 8 * i + 0) = nI a := ea
      have ei : (nI i).toNatClampNeg = i := cl (by omega)
      have eG : ∀ σ, vox (mA 1) i (nI act) z σ = gv act i a (mA 1 (8 + 8 * i + 1)) a z σ := fun σ => by
        unfold vox
        rw [ea, cl (by omega)]
        rcases q4 (show act < 4 by omega) with rfl | rfl | rfl | rfl
        · exact cif_t rfl
        · exact (cif_f (show ¬ nI 1 = 0 by decide)).trans (cif_t rfl)
        · exact (cif_f (show ¬ nI 2 = 0 by decide)).trans ((cif_f (show ¬ nI 2 = 1 by decide)).trans (cif_t rfl))
        · exact (cif_f (show ¬ nI 3 = 0 by decide)).trans ((cif_f (show ¬ nI 3 = 1 by decide)).trans (cif_f (show ¬ nI 3 = 2 by decide)))
      refine ⟨s, t, u, A, F, mA 1, (mA, fset (fset mF 24 0) 25 (nI i)), n, k, i, a, act, z, rfl, rfl, hC.1, hR.1, hi, by omega, ea, ha, hR.2.2.2.2.2.2.1.1.symm, rfl, fun ρ A' F' hρ hb hA' h70 hF' => ?_⟩
      have hq : qvoice (nI i) (nI act) z mA mF = ρ := by
        rw [hρ, ← eG]
        refine cif_t' ⟨isS_i hk hk8 hi, g1, g2⟩ ?_
        rw [ei]
      have hkeep := VP_gv (σ := (mA, fset (fset mF 24 0) 25 (nI i))) act i a (mA 1 (8 + 8 * i + 1)) a z
      rw [← hρ] at hkeep
      have k1 : ∀ p, p ≠ 14 → ρ.2.1 p = mA p := hkeep.1
      have k2 : ∀ q, q ≠ 24 → q ≠ 25 → ρ.2.2 q = mF q := fun q h1 h2 => (hkeep.2 q h1).trans ((fsN h2).trans (fsN h1))
      have hS : sm [74] A' A := by rw [hA']; exact sm_aset rfl
      obtain ⟨r1, r2, r3, r4, r5, r6, r7, r8, r9⟩ := hR
      rw [hq] at h
      refine h s t u A' F' c (by omega) ⟨?_, ?_, ?_, fun j a b => ?_, fun x hx => ?_, fun x l hx hl => ?_, ⟨?_, h70⟩, ?_, ?_⟩ ?_
      · rw [k1 1 (by omega)]
        exact CRf (CRsm (CP := CP1) r1 hS (by decide)) (hF' 11 rfl) (hF' 12 rfl) (hF' 13 rfl) (hF' 14 rfl) (hF' 15 rfl) (hF' 16 rfl) (hF' 20 rfl) (hF' 21 rfl)
      · rw [k1 2 (by omega), k2 2 (by omega) (by omega)]
        exact r2.imp id (fun q => CRf (F := fdn KF F) (CRsm (CP := CP19) q hS (by decide)) (hF' 31 rfl) (hF' 32 rfl) (hF' 33 rfl) (hF' 34 rfl) (hF' 35 rfl) (hF' 36 rfl) (hF' 40 rfl) (hF' 41 rfl))
      · rw [k2 2 (by omega) (by omega)]
        exact (hF' 1 rfl).trans r3
      · rw [k1 3 (by omega), hS 82 rfl]
        exact r4 j a b
      · rw [k1 15 (by omega), k1 16 (by omega), hS 66 rfl, hS 67 rfl]
        exact r5 x hx
      · rw [k1 17 (by omega), hS (69 + x) (by rcases h4' hx with rfl | rfl | rfl | rfl <;> rfl)]
        exact r6 x l hx hl
      · rw [hA']
        rfl
      · rw [hS 9 rfl]
        exact r8
      · rw [hS 27 rfl]
        exact r9
      · rw [k1 1 (by omega)]
        exact ⟨KV_cg hX.1 (fun t ht => hS (39 + t) (row8 (by have := hX.2.2.2; omega) (by decide))), (hF' 54 rfl).trans h54, fun q hq => by rw [hS 58 rfl]; exact h58 q hq, hX.2.2.2⟩
    · refine br_f xc_ne0 ?_
      refine ⟨s, t, u, A, F, 1, rfl, rfl, by decide, by decide, ?_⟩
      exact cQ_e h (cif_f' (fun q => g q.2) rfl) hR hX
  · refine br_t xc_eq0 ?_
    refine ⟨s, t, u, A, F, 1, rfl, rfl, by decide, by decide, ?_⟩
    exact cQ_e h (cif_f' (fun q => isS_n hk hk8 g q.1) rfl) hR hX
