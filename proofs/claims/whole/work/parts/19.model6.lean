/-! ===== the reference: move ===== -/
theorem cpy_0 (f g : Nat → Int32) (sp dp : Nat) : va_cpy f g sp dp 0 = g := by
  funext j
  exact pk_cpy_out (by omega)
theorem cpy_s (f g : Nat → Int32) (sp dp c : Nat) : upd (va_cpy f g sp dp c) (dp + c) (f (sp + c)) = va_cpy f g sp dp (c + 1) := by
  funext j
  by_cases h : j = dp + c
  · subst h
    rw [pk_us, pk_cpy_in (by omega) (by omega), show dp + c - dp = c by omega]
  · rw [pk_un h]
    by_cases h2 : dp ≤ j ∧ j < dp + c
    · rw [pk_cpy_in h2.1 h2.2, pk_cpy_in h2.1 (by omega)]
    · rw [pk_cpy_out (by omega), pk_cpy_out (by omega)]
theorem ix40b (i a c : Nat) : (40 : Int32) * nI i + nI a + nI c = nI (40 * i + a + c) := by rw [show (40 : Int32) = nI 40 from rfl, pk_mul, nI_add, nI_add]
theorem stands {z i n : Nat} (hz : z < 2 ^ 31) (hi : i < 2 ^ 31) (hn : n < 2 ^ 31) (h : ¬ nI z - nI i < nI n) : n + i ≤ z := by
  rw [fa_lt, subI hz hi, nI_toInt hn] at h
  omega
theorem stands' {z i n : Nat} (hz : z < 2 ^ 31) (hi : i < 2 ^ 31) (hn : n < 2 ^ 31) (h : n + i ≤ z) : ¬ nI z - nI i < nI n := by
  rw [fa_lt, subI hz hi, nI_toInt hn]
  omega
def sX10_move : XS := fun as w post => ∃ (A : XA) (F : Nat → Int32) (s i o j n : Int32), as = [.ref 0, .int s, .int i, .int o, .int j, .int n] ∧ w = LM A F ∧ SI A ∧ sQ (qmove s i o j n A F) post
set_option maxRecDepth 10000 in
set_option maxHeartbeats 1000000 in
theorem mX10_move (d : Nat) (hd : 2 ≤ d) : xCT d yX10_move cX10_move 7 (some .int) sX10_move := by
  obtain ⟨d, rfl⟩ : ∃ e, d = e + 1 := ⟨d - 1, by omega⟩
  refine xmet (tb := tX10_move) (fl := fX10) (kc := nX10) (gs := g0) (cl := xlk [(175, false, 1, sX10_isSheet), (128, true, 2, xrcv 10 (sX10_finds))]) (by decide) tX10_move_ok fX10_ok nX10_ok g0_ok (xg_cons (k_X10_175 (mX10_isSheet d (by omega))) (xg_cons (k_X10_128 (mX10_finds d (by omega))) xg_nil)) ?_
  rintro L xs as w Qp ⟨A, F, s, i, o, j, n, rfl, rfl, hSI, h⟩
  unfold qmove at h
  refine ⟨Nat.le_of_ble_eq_true rfl, 400, xlk [(115, 7), (152, 7), (14, 6), (38, 6), (106, 6)], fun m pc ls st w => (ls = [(0, .ref 0), (1, .int s), (2, .int i), (3, .int o), (4, .int j), (5, .int n)] ∧ st = [] ∧ w = LM A F ∧ m = 200 ∧ ((pc = 14 ∧ ¬ (isH s ∧ isH o)) ∨ (pc = 38 ∧ isH s ∧ isH o ∧ (A 15 s.toNatClampNeg = 0 ∨ A 15 o.toNatClampNeg = 0)) ∨ (pc = 106 ∧ isH s ∧ isH o ∧ ¬ (A 15 s.toNatClampNeg = 0 ∨ A 15 o.toNatClampNeg = 0) ∧ A 15 s.toNatClampNeg = A 15 o.toNatClampNeg ∧ (n < 0 ∨ i < 0 ∨ j < 0 ∨ A 16 s.toNatClampNeg - i < n ∨ A 16 o.toNatClampNeg - j < n)))) ∨
    (∃ s1 i1 o1 j1 n1 c, s = nI s1 ∧ s1 < 4 ∧ o = nI o1 ∧ o1 < 4 ∧ i = nI i1 ∧ j = nI j1 ∧ n = nI n1 ∧ n1 + i1 ≤ 40 ∧ n1 + j1 ≤ 40 ∧ c ≤ n1 ∧ st = [] ∧ ls = [(0, .ref 0), (1, .int s), (2, .int i), (3, .int o), (4, .int j), (5, .int n), (6, .int (nI c))] ∧ (∀ A', per (aset A 17 (va_cpy (A 17) (A 17) (40 * s1 + i1) (40 * o1 + j1) n1)) F A' F → Qp (some (.int n)) (LM A' F)) ∧ ((pc = 115 ∧ m = 150 - c ∧ w = LM (aset A 18 (cpU (fun t => A 17 (40 * s1 + i1 + t)) (A 18) c)) F) ∨ (pc = 152 ∧ m = 50 - c ∧ w = LM (aset (aset A 18 (cpU (fun t => A 17 (40 * s1 + i1 + t)) (A 18) n1)) 17 (va_cpy (A 17) (A 17) (40 * s1 + i1) (40 * o1 + j1) c)) F))), ?_, ?_⟩
  · refine ⟨s, rfl, fun s1 hs1 es => ?_, fun g => ?_⟩
    · refine br_f xc_eq1 ?_
      refine ⟨o, rfl, fun o1 ho1 eo => ?_, fun g => ?_⟩
      · refine br_t xc_ne1 ?_
        have hHs : isH s := by rw [es]; exact isH_i hs1
        have hHo : isH o := by rw [eo]; exact isH_i ho1
        have ins : vp_in s 4 := by rw [es]; exact vp_in_nI hs1 (by decide)
        have ino : vp_in o 4 := by rw [eo]; exact vp_in_nI ho1 (by decide)
        refine And.intro ins ?_
        refine And.intro (fun g => ⟨200, Or.inl ⟨rfl, rfl, rfl, rfl, Or.inr (Or.inl ⟨rfl, hHs, hHo, Or.inl g⟩)⟩⟩) (fun g1 => ?_)
        refine And.intro ino ?_
        refine And.intro (fun g2 => ?_) (fun g2 => ⟨200, Or.inl ⟨rfl, rfl, rfl, rfl, Or.inr (Or.inl ⟨rfl, hHs, hHo, Or.inr (Classical.not_not.mp g2)⟩)⟩⟩)
        have g12 : ¬ (A 15 s.toNatClampNeg = 0 ∨ A 15 o.toNatClampNeg = 0) := fun q => q.elim g1 g2
        refine And.intro ins (And.intro ino ?_)
        refine And.intro (fun g3 => ?_) (fun g3 => ?_)
        · have g3 : A 15 s.toNatClampNeg = A 15 o.toNatClampNeg := g3
          refine And.intro (fun q => ⟨200, Or.inl ⟨rfl, rfl, rfl, rfl, Or.inr (Or.inr ⟨rfl, hHs, hHo, g12, g3, Or.inl q⟩)⟩⟩) (fun q1 => ?_)
          refine And.intro (fun q => ⟨200, Or.inl ⟨rfl, rfl, rfl, rfl, Or.inr (Or.inr ⟨rfl, hHs, hHo, g12, g3, Or.inr (Or.inl q)⟩)⟩⟩) (fun q2 => ?_)
          refine And.intro (fun q => ⟨200, Or.inl ⟨rfl, rfl, rfl, rfl, Or.inr (Or.inr ⟨rfl, hHs, hHo, g12, g3, Or.inr (Or.inr (Or.inl q))⟩)⟩⟩) (fun q3 => ?_)
          refine And.intro ins ?_
          refine And.intro (fun q => ⟨200, Or.inl ⟨rfl, rfl, rfl, rfl, Or.inr (Or.inr ⟨rfl, hHs, hHo, g12, g3, Or.inr (Or.inr (Or.inr (Or.inl q)))⟩)⟩⟩) (fun q4 => ?_)
          refine And.intro ino ?_
          refine And.intro (fun q5 => ?_) (fun q => ⟨200, Or.inl ⟨rfl, rfl, rfl, rfl, Or.inr (Or.inr ⟨rfl, hHs, hHo, g12, g3, Or.inr (Or.inr (Or.inr (Or.inr (fa_of_nle q))))⟩)⟩⟩)
          have q5 : ¬ A 16 o.toNatClampNeg - j < n := fun q => (fa_of_lt q).2.1 q5
          obtain ⟨n1, hn1, en⟩ := pos_of q1
          obtain ⟨i1, hi1, ei⟩ := pos_of q2
          obtain ⟨j1, hj1, ej⟩ := pos_of q3
          obtain ⟨z, hz, ez⟩ := hSI s1 hs1
          obtain ⟨z2, hz2, ez2⟩ := hSI o1 ho1
          have cs : s.toNatClampNeg = s1 := by rw [es]; exact cl (by omega)
          have co : o.toNatClampNeg = o1 := by rw [eo]; exact cl (by omega)
          have r1 : n1 + i1 ≤ z := stands (by omega) hi1 hn1 (by rw [← ez, ← en, ← ei, ← cs]; exact q4)
          have r2 : n1 + j1 ≤ z2 := stands (by omega) hj1 hn1 (by rw [← ez2, ← en, ← ej, ← co]; exact q5)
          refine ⟨150, Or.inr ⟨s1, i1, o1, j1, n1, 0, es, hs1, eo, ho1, ei, ej, en, by omega, by omega, Nat.zero_le _, rfl, rfl, fun A' hp => ?_, Or.inl ⟨rfl, rfl, ?_⟩⟩⟩
          · refine sQ_p h (cif_t' ⟨hHs, hHo⟩ (cif_f' g12 (cif_t' g3 (cif_f' ?_ ?_)))) hp
            · rintro (q | q | q | q | q)
              · exact q1 q
              · exact q2 q
              · exact q3 q
              · exact q4 q
              · exact q5 q
            · rw [cs, co, en, ei, ej, cl hi1, cl hj1, cl hn1]
          · rw [cpU_0, aset_eta]
        · have g3 : ¬ A 15 s.toNatClampNeg = A 15 o.toNatClampNeg := g3
          refine ⟨A, F, 5, rfl, rfl, by decide, ?_⟩
          exact sQ_e h (cif_t' ⟨hHs, hHo⟩ (cif_f' g12 (cif_f' g3 rfl)))
      · refine br_f xc_ne0 ?_
        exact ⟨200, Or.inl ⟨rfl, rfl, rfl, rfl, Or.inl ⟨rfl, fun q => isH_n g q.2⟩⟩⟩
    · refine br_t xc_eq0 ?_
      exact ⟨200, Or.inl ⟨rfl, rfl, rfl, rfl, Or.inl ⟨rfl, fun q => isH_n g q.1⟩⟩⟩
  · rintro m pc m9 ls st w hc (⟨rfl, rfl, rfl, rfl, ⟨rfl, g⟩ | ⟨rfl, hHs, hHo, g⟩ | ⟨rfl, hHs, hHo, g12, g3, g⟩⟩ | ⟨s1, i1, o1, j1, n1, c, rfl, hs1, rfl, ho1, rfl, rfl, rfl, r1, r2, hcn, rfl, rfl, hfin, ⟨rfl, rfl, rfl⟩ | ⟨rfl, rfl, rfl⟩⟩)
    · refine ⟨A, F, 1, rfl, rfl, by decide, ?_⟩
      exact sQ_e h (cif_f' g rfl)
    · refine ⟨A, F, 2, rfl, rfl, by decide, ?_⟩
      exact sQ_e h (cif_t' ⟨hHs, hHo⟩ (cif_t' g rfl))
    · refine ⟨A, F, 1, rfl, rfl, by decide, ?_⟩
      exact sQ_e h (cif_t' ⟨hHs, hHo⟩ (cif_f' g12 (cif_t' g3 (cif_t' g rfl))))
    · refine And.intro (fun g => ?_) (fun g => ?_)
      · have := ge_n rfl (by omega) (by omega) g
        refine ⟨50, by omega, Or.inr ⟨s1, i1, o1, j1, n1, 0, rfl, hs1, rfl, ho1, rfl, rfl, rfl, r1, r2, Nat.zero_le _, rfl, rfl, hfin, Or.inr ⟨rfl, rfl, ?_⟩⟩⟩
        rw [cpy_0, show c = n1 by omega]
        exact congrArg (fun B => LM B F) (aset_eta (aset A 18 (cpU (fun t => A 17 (40 * s1 + i1 + t)) (A 18) n1)) 17).symm
      · have hlt := nge_n rfl (by omega) (by omega) g
        have ein : vp_in (40 * nI s1 + nI i1 + nI c) 160 := by rw [ix40b]; exact vp_in_nI (by omega) (by omega)
        have eix : (40 * nI s1 + nI i1 + nI c).toNatClampNeg = 40 * s1 + i1 + c := by rw [ix40b]; exact cl (by omega)
        refine And.intro ein (And.intro (vp_in_nI (by omega) (by decide)) ?_)
        refine ⟨150 - (c + 1), by omega, Or.inr ⟨s1, i1, o1, j1, n1, c + 1, rfl, hs1, rfl, ho1, rfl, rfl, rfl, r1, r2, by omega, rfl, by rw [← nI_1]; rfl, hfin, Or.inl ⟨rfl, rfl, ?_⟩⟩⟩
        show LM (aset (aset A 18 (cpU (fun t => A 17 (40 * s1 + i1 + t)) (A 18) c)) 18 (upd (cpU (fun t => A 17 (40 * s1 + i1 + t)) (A 18) c) (nI c).toNatClampNeg (A 17 (40 * nI s1 + nI i1 + nI c).toNatClampNeg))) F = _
        rw [aset_aset, eix, cl (by omega)]
        exact congrArg (fun B => LM (aset A 18 B) F) (cpU_s (fun t => A 17 (40 * s1 + i1 + t)) (A 18) c)
    · refine And.intro (fun g => ?_) (fun g => ?_)
      · have := ge_n rfl (by omega) (by omega) g
        rw [show c = n1 by omega]
        exact hfin _ ⟨rfl, rfl, rfl, rfl, rfl, rfl, rfl, rfl, rfl⟩
      · have hlt := nge_n rfl (by omega) (by omega) g
        have ein : vp_in (40 * nI o1 + nI j1 + nI c) 160 := by rw [ix40b]; exact vp_in_nI (by omega) (by omega)
        have eix : (40 * nI o1 + nI j1 + nI c).toNatClampNeg = 40 * o1 + j1 + c := by rw [ix40b]; exact cl (by omega)
        refine And.intro (vp_in_nI (by omega) (by decide)) (And.intro ein ?_)
        refine ⟨50 - (c + 1), by omega, Or.inr ⟨s1, i1, o1, j1, n1, c + 1, rfl, hs1, rfl, ho1, rfl, rfl, rfl, r1, r2, by omega, rfl, by rw [← nI_1]; rfl, hfin, Or.inr ⟨rfl, rfl, ?_⟩⟩⟩
        show LM (aset (aset (aset A 18 (cpU (fun t => A 17 (40 * s1 + i1 + t)) (A 18) n1)) 17 (va_cpy (A 17) (A 17) (40 * s1 + i1) (40 * o1 + j1) c)) 17 (upd (va_cpy (A 17) (A 17) (40 * s1 + i1) (40 * o1 + j1) c) (40 * nI o1 + nI j1 + nI c).toNatClampNeg (cpU (fun t => A 17 (40 * s1 + i1 + t)) (A 18) n1 (nI c).toNatClampNeg))) F = _
        have ecp : cpU (fun t => A 17 (40 * s1 + i1 + t)) (A 18) n1 c = A 17 (40 * s1 + i1 + c) := by unfold cpU; rw [if_pos hlt]
        rw [aset_aset, eix, cl (by omega), ecp, cpy_s]
