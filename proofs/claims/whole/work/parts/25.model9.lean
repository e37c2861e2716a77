/-! ===== the reference reads a part; all depths ===== -/
def sPm (c : Nat) : Nat → XS
  | 0 => fun _ _ _ => False
  | j + 1 => sP c j
theorem FB_w {F F' : Nat → Int32} {q a c : Nat} (h : FB (fset (fset F 8 (nI a)) 5 (nI c)) F' q) : FB F F' q := ⟨h.1, fun k h1 h2 h3 => (h.2 k h1 h2 h3).trans ((fset_n h1).trans (fset_n h3))⟩
set_option maxRecDepth 10000 in
set_option maxHeartbeats 2000000 in
theorem pX10_unit (j d : Nat) (hd : 1 ≤ d) (hE : xCT d yX10_either cX10_either 3 (some .int) (sPm 0 j)) (hU : xCT d yX10_unit cX10_unit 5 (some .int) (sPm 5 j)) : xCT (d + 1) yX10_unit cX10_unit 5 (some .int) (sP 5 j) := by
  refine xmet (tb := tX10_unit) (fl := fX10) (kc := nX10) (gs := g0) (cl := xlk [(82, true, 1, xrcv 10 sX10_here), (112, true, 1, xrcv 10 sX10_wrong), (115, true, 1, xrcv 10 (sPm 0 j)), (106, true, 1, xrcv 10 (sPm 5 j)), (93, true, 2, xrcv 10 sX10_takes), (118, true, 2, xrcv 10 sX10_nameOf), (65, false, 3, sX10_in)]) (by decide) tX10_unit_ok fX10_ok nX10_ok g0_ok (xg_cons (k_X10_82 (mX10_here d (by omega))) (xg_cons (k_X10_112 (mX10_wrong d (by omega))) (xg_cons (k_X10_115 hE) (xg_cons (k_X10_106 hU) (xg_cons (k_X10_93 (mX10_takes d (by omega))) (xg_cons (k_X10_118 (mX10_nameOf d (by omega))) (xg_cons (k_X10_65 (mX10_in d (by omega))) xg_nil))))))) ?_
  rintro L xs as w Qp ⟨A, F, base, p, n, o, u, rfl, rfl, hPS, hj, ho, h1, h2⟩
  obtain ⟨h4, h5, h6, h7, h8, h9, hu, hbn, hn, hp⟩ := id hPS
  have hR0 := PR_5 (b := bb A base) (u := u) (p := p) (o := o) hn
  generalize PR (bb A base) n u 5 p o = R at h1 h2 hR0
  have neg : F 7 < 0 := by rw [h7]; decide
  -- a fault here
  have fault : R = (false, p, []) → ∀ v, Qp (some (.int v)) (LM A (fset F 7 (F 5))) := by
    intro e v
    subst e
    exact h2 rfl v _ ⟨h5, fun k a b c => fset_n b⟩
  refine ⟨Nat.le_of_ble_eq_true rfl, 400, xlk [(150, 5)], fun m pc ls st w => pc = 150 ∧ ∃ c v, c ≤ 4 ∧ p + c ≤ n ∧ m = 10 - c ∧ ls = [(0, .ref 0), (1, .int (hr (bb A base) n p)), (2, .int (-1)), (3, .int v), (4, .int (nI c))] ∧ st = [] ∧ w = LM A (fset F 5 (nI (p + c))) ∧ numv (bb A base) n (4 - c) (p + c) v = numv (bb A base) n 4 p 0 ∧ (c = 0 → ¬ isdg (hr (bb A base) n p) ∨ isdg (hr (bb A base) n p)) ∧ (0 < c → isdg (hr (bb A base) n p)) ∧ ¬ hr (bb A base) n p = 40 ∧ ¬ hr (bb A base) n p = 33 ∧ ¬ nmi u (hr (bb A base) n p) < 9, ?_, ?_⟩
  · refine ⟨A, F, rfl, rfl, Or.inl ⟨base, p, n, o, u, hPS, ?_⟩⟩
    refine And.intro (fun g => ?_) (fun g33 => ?_)
    · -- !
      have g : hr (bb A base) n p = 33 := g
      have g40 : ¬ hr (bb A base) n p = 40 := by rw [g]; decide
      rw [cif_f g40, cif_t g] at hR0
      have hp1 : p + 1 ≤ n := hr_lt g (by decide)
      refine And.intro (fun g5 => ?_) (fun g5 => ?_)
      · have g5 : ¬ F 8 = 5 := g5
        have ho5 : ¬ o = 5 := fun q => g5 (by rw [h8, q]; rfl)
        rw [cif_f ho5] at hR0
        obtain ⟨j', rfl⟩ : ∃ e, j = e + 1 := ⟨j - 1, by omega⟩
        refine br_t g40 ?_
        have hw : LM A (fset (fset F 8 (nI (o + 1))) 5 (nI (p + 1))) = LM A (fset (fset F 8 (F 8 + 1)) 5 (F 5 + 1)) := by rw [h8, h5, nI_1, nI_1]
        have hPS1 : PS (fset (fset F 8 (nI (o + 1))) 5 (nI (p + 1))) base (p + 1) n (o + 1) u := ⟨h4, rfl, h6, h7, rfl, h9, hu, hbn, hn, hp1⟩
        refine ⟨A, fset (fset F 8 (nI (o + 1))) 5 (nI (p + 1)), base, p + 1, n, o + 1, u, rfl, hw.symm, hPS1, by omega, by omega, fun g => ?_, fun g v F' hF => ?_⟩
        · refine br_t g40 ?_
          refine br_t g40 ?_
          have e8 : nI (o + 1) - 1 = F 8 := by rw [nI_pred, h8]
          have e : R = (true, (PR (bb A base) n u 5 (p + 1) (o + 1)).2.1, (PR (bb A base) n u 5 (p + 1) (o + 1)).2.2 ++ [-33]) := by rw [hR0, cat2_i (pt_eq _ g) rfl]
          subst e
          have h9 := h1 rfl
          have wv := WV_not (PRok (A 4) (by omega) g)
          have hw2 : LM A (fset F 5 (nI (PR (bb A base) n u 5 (p + 1) (o + 1)).2.1)) = LM A (fset (fset (fset (fset F 8 (nI (o + 1))) 5 (nI (p + 1))) 5 (nI (PR (bb A base) n u 5 (p + 1) (o + 1)).2.1)) 8 (nI (o + 1) - 1)) := by rw [e8]; rfl
          have h9 : Qp (some (.int (VV (A 4) ((PR (bb A base) n u 5 (p + 1) (o + 1)).2.2 ++ [-33])))) (LM A (fset F 5 (nI (PR (bb A base) n u 5 (p + 1) (o + 1)).2.1))) := h9
          rw [hw2, wv.2] at h9
          refine And.intro (fun q => ?_) (fun q => ?_)
          · rw [cif_f q] at h9
            exact h9
          · rw [cif_t (Classical.not_not.mp q)] at h9
            exact h9
        · refine br_t g40 ?_
          refine br_t g40 ?_
          have e : R = (false, (PR (bb A base) n u 5 (p + 1) (o + 1)).2.1, []) := by rw [hR0, cat2_f1 g]
          subst e
          have hv : ∀ x : Int32, Qp (some (.int x)) (LM A (fset F' 8 (F' 8 - 1))) := fun x => h2 rfl x _ ⟨(FB_w hF).1, fun k a b c => (fset_n c).trans ((FB_w hF).2 k a b c)⟩
          exact And.intro (fun q => hv _) (fun q => hv _)
      · have g5 : F 8 = 5 := Classical.not_not.mp g5
        have ho5 : o = 5 := by rw [h8] at g5; exact (nI_eq (b := 5) (by omega) (by omega)).mp g5
        rw [cif_t ho5] at hR0
        exact ⟨A, F, rfl, rfl, Or.inl ⟨neg, fault hR0 0⟩⟩
    · have g33 : ¬ hr (bb A base) n p = 33 := g33
      refine And.intro (fun g40 => ?_) (fun g => ?_)
      · have g40 : ¬ hr (bb A base) n p = 40 := g40
        rw [cif_f g40, cif_f g33] at hR0
        refine ⟨A, F, hr (bb A base) n p, u, rfl, rfl, h9, hu, fun g => ?_, fun g => ?_⟩
        · have g4 := nmi4 g
          refine br_f (by show ¬ nI (nmi u (hr (bb A base) n p)) < 0; exact nI_pos (by omega)) ?_
          rw [cif_t g] at hR0
          subst hR0
          have h9 := h1 rfl
          rw [(WV_nm (A 4) g4).2, ← nI_1, ← h5] at h9
          refine And.intro (vp_in_nI g4 (by decide)) ?_
          rw [← cl (i := nmi u (hr (bb A base) n p)) (by omega)] at h9
          exact h9
        · refine br_t (show (-1 : Int32) < 0 by decide) ?_
          refine ⟨10, rfl, 0, 0, by omega, hp, rfl, rfl, rfl, ?_, rfl, fun _ => (Classical.em _).symm, fun q => absurd q (by omega), g40, g33, g⟩
          rw [Nat.add_zero, ← h5]
          rfl
      · -- (
        have g : hr (bb A base) n p = 40 := Classical.not_not.mp g
        rw [cif_t g] at hR0
        have g40 : ¬ ¬ hr (bb A base) n p = 40 := fun q => q g
        have hp1 : p + 1 ≤ n := hr_lt g (by decide)
        refine And.intro (fun g5 => ?_) (fun g5 => ?_)
        · have g5 : ¬ F 8 = 5 := g5
          have ho5 : ¬ o = 5 := fun q => g5 (by rw [h8, q]; rfl)
          rw [cif_f ho5] at hR0
          obtain ⟨j', rfl⟩ : ∃ e, j = e + 1 := ⟨j - 1, by omega⟩
          refine br_f g40 ?_
          have hw : LM A (fset (fset F 8 (nI (o + 1))) 5 (nI (p + 1))) = LM A (fset (fset F 8 (F 8 + 1)) 5 (F 5 + 1)) := by rw [h8, h5, nI_1, nI_1]
          have hPS1 : PS (fset (fset F 8 (nI (o + 1))) 5 (nI (p + 1))) base (p + 1) n (o + 1) u := ⟨h4, rfl, h6, h7, rfl, h9, hu, hbn, hn, hp1⟩
          refine ⟨A, fset (fset F 8 (nI (o + 1))) 5 (nI (p + 1)), base, p + 1, n, o + 1, u, rfl, hw.symm, hPS1, by omega, by omega, fun gk => ?_, fun gk v F' hF => ?_⟩
          · have hq : (PR (bb A base) n u 0 (p + 1) (o + 1)).2.1 ≤ n := PRle hp1
            refine br_f g40 ?_
            refine ⟨A, _, 41, rfl, rfl, Or.inl ⟨base, _, n, o + 1, u, PS_at hPS1 hq, fun gc => ?_, fun gc => ?_⟩⟩
            · refine br_t xc_ne1 ?_
              refine br_f g40 ?_
              have e8 : nI (o + 1) - 1 = F 8 := by rw [nI_pred, h8]
              have e : R = (true, (PR (bb A base) n u 0 (p + 1) (o + 1)).2.1 + 1, (PR (bb A base) n u 0 (p + 1) (o + 1)).2.2) := by
                rw [hR0, cat2_i (pt_eq _ gk) (cif_t gc), List.append_nil]
              subst e
              have h9 := h1 rfl
              have hw2 : LM A (fset F 5 (nI ((PR (bb A base) n u 0 (p + 1) (o + 1)).2.1 + 1))) = LM A (fset (fset (fset (fset F 8 (nI (o + 1))) 5 (nI (p + 1))) 5 (nI ((PR (bb A base) n u 0 (p + 1) (o + 1)).2.1 + 1))) 8 (nI (o + 1) - 1)) := by rw [e8]; rfl
              have h9 : Qp (some (.int (VV (A 4) (PR (bb A base) n u 0 (p + 1) (o + 1)).2.2))) (LM A (fset F 5 (nI ((PR (bb A base) n u 0 (p + 1) (o + 1)).2.1 + 1)))) := h9
              rw [hw2] at h9
              exact h9
            · refine br_f xc_ne0 ?_
              have e : R = (false, (PR (bb A base) n u 0 (p + 1) (o + 1)).2.1, []) := by
                rw [hR0, cat2_f2 gk (by rw [cif_f gc]), cif_f gc]
              subst e
              refine ⟨A, _, rfl, rfl, Or.inl ⟨neg, ?_⟩⟩
              exact h2 rfl 0 _ ⟨rfl, fun k a b c => (fset_n b).trans ((fset_n a).trans ((fset_n a).trans (fset_n c)))⟩
          · have hq : (PR (bb A base) n u 0 (p + 1) (o + 1)).2.1 ≤ n := PRle hp1
            have hpos := FB_pos hF (by omega)
            refine br_f g40 ?_
            refine ⟨A, F', 41, rfl, rfl, Or.inr ⟨hpos, by decide, ?_⟩⟩
            refine br_f xc_ne0 ?_
            have e : R = (false, (PR (bb A base) n u 0 (p + 1) (o + 1)).2.1, []) := by rw [hR0, cat2_f1 gk]
            subst e
            refine ⟨A, F', rfl, rfl, Or.inr ⟨hpos, ?_⟩⟩
            exact h2 rfl 0 F' (FB_w hF)
        · have g5 : F 8 = 5 := Classical.not_not.mp g5
          have ho5 : o = 5 := by rw [h8] at g5; exact (nI_eq (b := 5) (by omega) (by omega)).mp g5
          rw [cif_t ho5] at hR0
          exact ⟨A, F, rfl, rfl, Or.inl ⟨neg, fault hR0 0⟩⟩
  · rintro m pc m9 ls st w hc ⟨rfl, c, v, hc4, hpc, rfl, rfl, rfl, rfl, hnv, -, hpos, g40, g33, gn⟩
    rw [cif_f g40, cif_f g33, cif_f gn] at hR0
    have stop : numv (bb A base) n 4 p 0 = (p + c, v) → 0 < c → Qp (some (.int v)) (LM A (fset F 5 (nI (p + c)))) := by
      intro e h0
      rw [cif_t (hpos h0), e] at hR0
      subst hR0
      obtain ⟨i, hi, ei⟩ := numv_val (bb A base) n 4 p 0 (by decide)
      have ei : (numv (bb A base) n 4 p 0).2 = nI i := ei
      rw [e] at ei
      have ei : v = nI i := ei
      have h9 := h1 rfl
      subst ei
      have h9 : Qp (some (.int (VV (A 4) [nI i]))) (LM A (fset F 5 (nI (p + c)))) := h9
      rw [(WV_lit (A 4) (v := i) (by omega)).2] at h9
      exact h9
    have zero : numv (bb A base) n 4 p 0 = (p + c, v) → c = 0 → R = (false, p, []) := by
      intro e h0
      subst h0
      refine hR0.trans (cif_f (fun q => ?_))
      have := numv_gt q
      rw [e] at this
      have this : p + 1 ≤ p + 0 := this
      omega
    have last : numv (bb A base) n 4 p 0 = (p + c, v) → (xcond .ne (nI c) 0 → Qp (some (.int v)) (LM A (fset F 5 (nI (p + c))))) ∧ (¬ xcond .ne (nI c) 0 → Qp (some (.int 0)) (LM A (fset (fset F 5 (nI (p + c))) 7 (nI (p + c))))) := by
      intro e
      refine ⟨fun q => ?_, fun q => ?_⟩
      · have q : ¬ nI c = 0 := q
        exact stop e (by rcases Nat.eq_zero_or_pos c with z | z; exact absurd (by rw [z]; rfl) q; exact z)
      · have q : nI c = 0 := Classical.not_not.mp q
        have h0 : c = 0 := (nI_eq (b := 0) (by omega) (by omega)).mp q
        have hz := zero e h0
        subst hz
        subst h0
        exact h2 rfl 0 _ ⟨rfl, fun k a b c => (fset_n b).trans (fset_n a)⟩
    refine And.intro (fun g => ?_) (fun g => ?_)
    · have hc : 4 ≤ c := ge_n (k := 4) rfl (by omega) (by omega) g
      have e : numv (bb A base) n 4 p 0 = (p + c, v) := by rw [← hnv, show 4 - c = 0 by omega]; rfl
      refine And.intro (fun q => (last e).1 q) (fun q => ?_)
      exact ⟨A, _, rfl, rfl, Or.inl ⟨neg, (last e).2 q⟩⟩
    · have hc : c < 4 := nge_n (k := 4) rfl (by omega) (by omega) g
      refine ⟨A, _, rfl, rfl, Or.inl ⟨base, p + c, n, o, u, PS_at hPS hpc, ?_⟩⟩
      have hun : numv (bb A base) n (4 - c) (p + c) v = cif (isdg (hr (bb A base) n (p + c))) (numv (bb A base) n (4 - (c + 1)) (p + c + 1) (10 * v + hr (bb A base) n (p + c) - 48)) (p + c, v) := by
        rw [show 4 - c = (4 - (c + 1)) + 1 by omega]
        rfl
      refine ⟨hr (bb A base) n (p + c), 48, 57, rfl, fun q1 q2 => ?_, fun q => ?_⟩
      · refine br_f xc_eq1 ?_
        have hdg : isdg (hr (bb A base) n (p + c)) := ⟨q1, q2⟩
        rw [cif_t hdg] at hun
        refine ⟨A, _, rfl, rfl, Or.inl ⟨base, p + c, n, o, u, PS_at hPS hpc, ?_⟩⟩
        refine ⟨10 - (c + 1), by omega, rfl, c + 1, 10 * v + hr (bb A base) n (p + c) - 48, by omega, dg_lt hdg, rfl, by rw [← nI_1]; rfl, rfl, ?_, ?_, fun q => absurd q (by omega), fun _ => ?_, g40, g33, gn⟩
        · rw [show p + (c + 1) = p + c + 1 by omega, ← nI_1]
          rfl
        · rw [← hnv, hun, show p + (c + 1) = p + c + 1 by omega]
        · rcases Nat.eq_zero_or_pos c with z | z
          · rw [z] at hdg
            exact hdg
          · exact hpos z
      · refine br_t xc_eq0 ?_
        have e : numv (bb A base) n 4 p 0 = (p + c, v) := by rw [← hnv, hun, cif_f (fun r => q ⟨r.1, r.2⟩)]
        refine And.intro (fun q => (last e).1 q) (fun q => ?_)
        exact ⟨A, _, rfl, rfl, Or.inl ⟨neg, (last e).2 q⟩⟩
theorem xCT_no {d : Nat} {y : MethodName} {b : ByteArray} {nL : Nat} {rt : Option FieldType} : xCT d y b nL rt (fun _ _ _ => False) := fun _ _ _ _ _ _ _ _ _ h => h.elim
/-- all reading methods, whatever may be opened still -/
theorem pX10_all : ∀ (j d : Nat), 7 * j + 10 ≤ d → xCT d yX10_either cX10_either 3 (some .int) (sP 0 j) ∧ xCT d yX10_unit cX10_unit 5 (some .int) (sP 5 j) := by
  intro j
  induction j with
  | zero =>
    intro d hd
    have u : ∀ e, 2 ≤ e → xCT e yX10_unit cX10_unit 5 (some .int) (sP 5 0) := fun e he => by
      obtain ⟨e, rfl⟩ : ∃ x, e = x + 1 := ⟨e - 1, by omega⟩
      exact pX10_unit 0 e (by omega) xCT_no xCT_no
    refine ⟨?_, u d (by omega)⟩
    obtain ⟨d, rfl⟩ : ∃ x, d = x + 1 + 1 + 1 + 1 + 1 := ⟨d - 5, by omega⟩
    exact pX10_either 0 _ (by omega) (pX10_both 0 _ (by omega) (pX10_compared 0 _ (pX10_sum 0 _ (pX10_product 0 _ (u d (by omega))))))
  | succ j ih =>
    intro d hd
    have u : ∀ e, 7 * j + 11 ≤ e → xCT e yX10_unit cX10_unit 5 (some .int) (sP 5 (j + 1)) := fun e he => by
      obtain ⟨e, rfl⟩ : ∃ x, e = x + 1 := ⟨e - 1, by omega⟩
      exact pX10_unit (j + 1) e (by omega) (ih e (by omega)).1 (ih e (by omega)).2
    refine ⟨?_, u d (by omega)⟩
    obtain ⟨d, rfl⟩ : ∃ x, d = x + 1 + 1 + 1 + 1 + 1 := ⟨d - 5, by omega⟩
    exact pX10_either _ _ (by omega) (pX10_both _ _ (by omega) (pX10_compared _ _ (pX10_sum _ _ (pX10_product _ _ (u d (by omega))))))
