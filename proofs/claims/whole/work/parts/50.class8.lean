/-! ===== the class: a step ===== -/
def SP (K : Nat → Nat → Int32) (A : XA) (F : Nat → Int32) (f t : Nat → Int32) : XW := [.inr (7, [.ref 1]), .inl (2, 8, .inr (.inr (.inr (.inr (fun i => some (2 + i)))))), .inl (0, 144, .inl (K 0)), .inl (0, 144, .inl (K 1)), .inl (0, 144, .inl (K 2)), .inl (0, 144, .inl (K 3)), .inl (0, 144, .inl (K 4)), .inl (0, 144, .inl (K 5)), .inl (0, 144, .inl (K 6)), .inl (0, 144, .inl (K 7)), .inr (1, [.ref 11, .ref 12, .ref 13, .ref 14, .ref 15, .ref 16, .ref 17, .ref 18, .ref 19, .ref 20, .ref 24, .int (F 11), .int (F 12), .int (F 13), .int (F 14), .int (F 15), .int (F 16)]), .inl (0, 8, .inl (A 1)), .inl (0, 8, .inl (A 2)), .inl (0, 8, .inl (A 3)), .inl (0, 8, .inl (A 4)), .inl (0, 8, .inl (A 5)), .inl (0, 8, .inl (A 6)), .inl (0, 8, .inl (A 7)), .inl (1, 50, .inl (A 8)), .inl (0, 20, .inl (A 9)), .inr (2, [.ref 21, .ref 22, .ref 23, .int (F 20)]), .inl (0, 50, .inl (A 11)), .inl (0, 50, .inl (A 12)), .inl (0, 4, .inl (A 13)), .inr (2, [.ref 25, .ref 26, .ref 27, .int (F 21)]), .inl (0, 50, .inl (A 15)), .inl (0, 50, .inl (A 16)), .inl (0, 4, .inl (A 17)), .inl (0, 8, .inl f), .inl (0, 8, .inl t)]
/-- the next note of singer i after l and s, by the class's data -/
noncomputable def NX (A : XA) (n : Nat) (ps : List Int32) (i l s : Nat) : Int32 := crd (nI n) (vrw (adV ps (nI l) (nI s) (A 2 i) (nI i)) (A 1 i) (A 2 i) (nI l) (nI s))
/-- what is remembered is right -/
def KV (K : Nat → Nat → Int32) (A : XA) (n k : Nat) (ps : List Int32) : Prop := ∀ i l s, i < k → l < n → s < n → K i (12 * l + s) = -1 ∨ K i (12 * l + s) = NX A n ps i l s
noncomputable def stC (A : XA) (n : Nat) (ps : List Int32) (f : Nat → Int32) : Nat → Int32 := fun i => NX A n ps i (f (A 5 i).toNatClampNeg).toNatClampNeg (f (A 6 i).toNatClampNeg).toNatClampNeg
def sX7_step : XS := fun as w post => ∃ (K : Nat → Nat → Int32) (A : XA) (F : Nat → Int32) (f t : Nat → Int32) (n k : Nat) (ps : List Int32), as = [.ref 0, .ref 10, .ref 28, .ref 29] ∧ w = SP K A F f t ∧ F 11 = nI n ∧ 2 ≤ n ∧ n ≤ 12 ∧ F 12 = nI k ∧ k ≤ 8 ∧ LH (A 11) (F 20) ps ∧ (∀ i, i < k → bd (A 5 i) k ∧ bd (A 6 i) k) ∧ (∀ i, i < k → bd (f i) n) ∧ KV K A n k ps ∧
  ∀ K' A', KV K' A n k ps → (∀ p, p ≠ 12 → p ≠ 13 → A' p = A p) → post none (SP K' A' F f (cpU (stC A n ps f) t k))
theorem NX_bd (A : XA) {n : Nat} (hn2 : 2 ≤ n) (hn12 : n ≤ 12) (ps : List Int32) (i l s : Nat) : bd (NX A n ps i l s) n := crd_bd (by omega) (by omega) _
theorem KV_upd {K : Nat → Nat → Int32} {A : XA} {n k : Nat} {ps : List Int32} (h : KV K A n k ps) (hn12 : n ≤ 12) {i l s : Nat} (hs : s < n) : KV (fun t => if t = i then upd (K i) (12 * l + s) (NX A n ps i l s) else K t) A n k ps := by
  intro i2 l2 s2 hi2 hl2 hs2
  by_cases q : i2 = i
  · subst q
    show (if i2 = i2 then upd (K i2) (12 * l + s) (NX A n ps i2 l s) else K i2) (12 * l2 + s2) = -1 ∨ (if i2 = i2 then upd (K i2) (12 * l + s) (NX A n ps i2 l s) else K i2) (12 * l2 + s2) = _
    rw [if_pos rfl]
    by_cases q2 : 12 * l2 + s2 = 12 * l + s
    · have e1 : l2 = l := by omega
      have e2 : s2 = s := by omega
      subst e1 e2
      exact Or.inr pk_us
    · rw [pk_un q2]
      exact h i2 l2 s2 hi2 hl2 hs2
  · show (if i2 = i then upd (K i) (12 * l + s) (NX A n ps i l s) else K i2) (12 * l2 + s2) = -1 ∨ (if i2 = i then upd (K i) (12 * l + s) (NX A n ps i l s) else K i2) (12 * l2 + s2) = _
    rw [if_neg q]
    exact h i2 l2 s2 hi2 hl2 hs2
theorem NX_cg {A A' : XA} (h : ∀ p, p ≠ 12 → p ≠ 13 → A' p = A p) (n : Nat) (ps : List Int32) (i l s : Nat) : NX A' n ps i l s = NX A n ps i l s := by
  unfold NX
  rw [h 1 (by omega) (by omega), h 2 (by omega) (by omega)]
theorem spset {K : Nat → Nat → Int32} {A : XA} {F f t u u' : Nat → Int32} (h : u = u') : List.set (SP K A F f t) 29 (.inl (0, 8, .inl u)) = SP K A F f u' := by
  subst h
  rfl
theorem sumSP {K : Nat → Nat → Int32} {A : XA} {F f t : Nat → Int32} {ps : List Int32} {kind m l s k : Int32} {post : Option Value → XW → Prop} (hL : LH (A 11) (F 20) ps) (h : ∀ A', (∀ p, p ≠ 12 → p ≠ 13 → A' p = A p) → post (some (.long (vrw (adV ps l s m k) kind m l s))) (SP K A' F f t)) : ∃ qs, xfr qs sX1_sumOf [.ref 10, .int kind, .int m, .int l, .int s, .int k] (SP K A F f t) post :=
  ⟨[10, 11, 12, 13, 14, 15, 16, 17, 18, 19, 20, 21, 22, 23, 24, 25, 26, 27], [.ref 0, .int kind, .int m, .int l, .int s, .int k], CH A F, rfl, rfl, rfl, A, F, ps, kind, m, l, s, k, rfl, rfl, hL, fun A2 hA2 => h A2 hA2⟩
theorem crdSP {K : Nat → Nat → Int32} {A : XA} {F f t : Nat → Int32} {n : Nat} {v : Int64} {post : Option Value → XW → Prop} (hn : F 11 = nI n) (hn2 : 2 ≤ n) (hn12 : n ≤ 12) (h : post (some (.int (crd (nI n) v))) (SP K A F f t)) : ∃ qs, xfr qs sX1_countedRound [.ref 10, .long v] (SP K A F f t) post :=
  ⟨[10, 11, 12, 13, 14, 15, 16, 17, 18, 19, 20, 21, 22, 23, 24, 25, 26, 27], [.ref 0, .long v], CH A F, rfl, rfl, rfl, A, F, v, n, rfl, rfl, hn, hn2, hn12, h⟩
theorem spset2_0 {K : Nat → Nat → Int32} {A : XA} {F f t u u' g g' : Nat → Int32} (h1 : g = g') (h2 : u = u') : List.set (List.set (SP K A F f t) (2 + 0) (.inl (0, 144, .inl g))) 29 (.inl (0, 8, .inl u)) = SP (fun t => if t = 0 then g' else K t) A F f u' := by
  subst h1 h2
  rfl
theorem spset2_1 {K : Nat → Nat → Int32} {A : XA} {F f t u u' g g' : Nat → Int32} (h1 : g = g') (h2 : u = u') : List.set (List.set (SP K A F f t) (2 + 1) (.inl (0, 144, .inl g))) 29 (.inl (0, 8, .inl u)) = SP (fun t => if t = 1 then g' else K t) A F f u' := by
  subst h1 h2
  rfl
theorem spset2_2 {K : Nat → Nat → Int32} {A : XA} {F f t u u' g g' : Nat → Int32} (h1 : g = g') (h2 : u = u') : List.set (List.set (SP K A F f t) (2 + 2) (.inl (0, 144, .inl g))) 29 (.inl (0, 8, .inl u)) = SP (fun t => if t = 2 then g' else K t) A F f u' := by
  subst h1 h2
  rfl
theorem spset2_3 {K : Nat → Nat → Int32} {A : XA} {F f t u u' g g' : Nat → Int32} (h1 : g = g') (h2 : u = u') : List.set (List.set (SP K A F f t) (2 + 3) (.inl (0, 144, .inl g))) 29 (.inl (0, 8, .inl u)) = SP (fun t => if t = 3 then g' else K t) A F f u' := by
  subst h1 h2
  rfl
theorem spset2_4 {K : Nat → Nat → Int32} {A : XA} {F f t u u' g g' : Nat → Int32} (h1 : g = g') (h2 : u = u') : List.set (List.set (SP K A F f t) (2 + 4) (.inl (0, 144, .inl g))) 29 (.inl (0, 8, .inl u)) = SP (fun t => if t = 4 then g' else K t) A F f u' := by
  subst h1 h2
  rfl
theorem spset2_5 {K : Nat → Nat → Int32} {A : XA} {F f t u u' g g' : Nat → Int32} (h1 : g = g') (h2 : u = u') : List.set (List.set (SP K A F f t) (2 + 5) (.inl (0, 144, .inl g))) 29 (.inl (0, 8, .inl u)) = SP (fun t => if t = 5 then g' else K t) A F f u' := by
  subst h1 h2
  rfl
theorem spset2_6 {K : Nat → Nat → Int32} {A : XA} {F f t u u' g g' : Nat → Int32} (h1 : g = g') (h2 : u = u') : List.set (List.set (SP K A F f t) (2 + 6) (.inl (0, 144, .inl g))) 29 (.inl (0, 8, .inl u)) = SP (fun t => if t = 6 then g' else K t) A F f u' := by
  subst h1 h2
  rfl
theorem spset2_7 {K : Nat → Nat → Int32} {A : XA} {F f t u u' g g' : Nat → Int32} (h1 : g = g') (h2 : u = u') : List.set (List.set (SP K A F f t) (2 + 7) (.inl (0, 144, .inl g))) 29 (.inl (0, 8, .inl u)) = SP (fun t => if t = 7 then g' else K t) A F f u' := by
  subst h1 h2
  rfl
set_option maxRecDepth 10000 in
set_option maxHeartbeats 1000000 in
theorem mX7_step (d : Nat) (hd : 3 ≤ d) : xCT d yX7_step cX7_step 10 none sX7_step := by
  obtain ⟨d, rfl⟩ : ∃ e, d = e + 1 := ⟨d - 1, by omega⟩
  refine xmet (tb := tX7_step) (fl := fX7) (kc := nX7) (gs := g0) (cl := xlk [(45, true, 6, xrcv 1 (xfrE sX1_sumOf)), (49, true, 2, xrcv 1 (xfrE sX1_countedRound))]) (by decide) tX7_step_ok fX7_ok nX7_ok g0_ok (xg_cons (k_X7_45 (xCT_frE (mX1_sumOf d (by omega)))) (xg_cons (k_X7_49 (xCT_frE (mX1_countedRound d (by omega)))) xg_nil)) ?_
  rintro L xs as w Qp ⟨K, A, F, f, t, n, k, ps, rfl, rfl, hn, hn2, hn12, hk, hk8, hL, hfs, hf, hKV, h⟩
  refine ⟨Nat.le_of_ble_eq_true rfl, 400, xlk [(3, 5)], fun m pc ls st w => pc = 3 ∧ st = [] ∧ ∃ i K' A', i ≤ k ∧ m = k - i ∧ ls = [(0, .ref 0), (1, .ref 10), (2, .ref 28), (3, .ref 29), (4, .int (nI i))] ∧ w = SP K' A' F f (cpU (stC A n ps f) t i) ∧ KV K' A n k ps ∧ (∀ p, p ≠ 12 → p ≠ 13 → A' p = A p), ?_, ?_⟩
  · exact ⟨k, rfl, rfl, 0, K, A, Nat.zero_le _, rfl, rfl, by rw [cpU_0], hKV, fun _ _ _ => rfl⟩
  · rintro m pc m9 ls st w hc ⟨rfl, rfl, i, K', A', hi, rfl, rfl, rfl, hKV', hA'⟩
    refine And.intro (fun g => ?_) (fun g => ?_)
    · have := ge_n hk (by omega) (by omega) g
      rw [show i = k by omega]
      exact h K' A' hKV' hA'
    · have hlt := nge_n hk (by omega) (by omega) g
      obtain ⟨⟨fi, hfi, efi⟩, ⟨se, hse, ese⟩⟩ := hfs i hlt
      obtain ⟨l, hl, el⟩ := hf fi hfi
      obtain ⟨s, hs, es⟩ := hf se hse
      have e5 : A' 5 (nI i).toNatClampNeg = nI fi := by rw [cl (by omega), hA' 5 (by omega) (by omega)]; exact efi
      have e6 : A' 6 (nI i).toNatClampNeg = nI se := by rw [cl (by omega), hA' 6 (by omega) (by omega)]; exact ese
      have eX : f (A' 5 (nI i).toNatClampNeg).toNatClampNeg = nI l := by rw [e5, cl (by omega)]; exact el
      have eY : f (A' 6 (nI i).toNatClampNeg).toNatClampNeg = nI s := by rw [e6, cl (by omega)]; exact es
      have i0 : vp_in (nI i) 8 := vp_in_nI (by omega) (by decide)
      have i5 : vp_in (A' 5 (nI i).toNatClampNeg) 8 := by rw [e5]; exact vp_in_nI (by omega) (by decide)
      have i6 : vp_in (A' 6 (nI i).toNatClampNeg) 8 := by rw [e6]; exact vp_in_nI (by omega) (by decide)
      have eAt : f (A' 5 (nI i).toNatClampNeg).toNatClampNeg * 12 + f (A' 6 (nI i).toNatClampNeg).toNatClampNeg = nI (12 * l + s) := by rw [eX, eY, show (12 : Int32) = nI 12 from rfl, pk_mul, nI_add, Nat.mul_comm]
      have iAt : vp_in (f (A' 5 (nI i).toNatClampNeg).toNatClampNeg * 12 + f (A' 6 (nI i).toNatClampNeg).toNatClampNeg) 144 := by rw [eAt]; exact vp_in_nI (by omega) (by decide)
      have eC : stC A n ps f i = NX A n ps i l s := by
        unfold stC
        rw [efi, ese, cl (by omega), cl (by omega), el, es, cl (by omega), cl (by omega)]
      have hL' : LH (A' 11) (F 20) ps := by rw [hA' 11 (by omega) (by omega)]; exact hL
      have ei : (nI i).toNatClampNeg = i := cl (by omega)
      have eV : crd (nI n) (vrw (adV ps (f (A' 5 (nI i).toNatClampNeg).toNatClampNeg) (f (A' 6 (nI i).toNatClampNeg).toNatClampNeg) (A' 2 (nI i).toNatClampNeg) (nI i)) (A' 1 (nI i).toNatClampNeg) (A' 2 (nI i).toNatClampNeg) (f (A' 5 (nI i).toNatClampNeg).toNatClampNeg) (f (A' 6 (nI i).toNatClampNeg).toNatClampNeg)) = NX A n ps i l s := by
        rw [eX, eY, ei, hA' 1 (by omega) (by omega), hA' 2 (by omega) (by omega)]
        rfl
      have hK := hKV' i l s hlt hl hs
      have hKn : K' i (f (A' 5 (nI i).toNatClampNeg).toNatClampNeg * 12 + f (A' 6 (nI i).toNatClampNeg).toNatClampNeg).toNatClampNeg = K' i (12 * l + s) := by rw [eAt, cl (by omega)]
      have eT : ∀ v, v = NX A n ps i l s → upd (cpU (stC A n ps f) t i) (nI i).toNatClampNeg v = cpU (stC A n ps f) t (i + 1) := by
        rintro v rfl
        rw [ei, ← eC, cpU_s]
      have eG : ∀ v, v = NX A n ps i l s → upd (K' i) (f (A' 5 (nI i).toNatClampNeg).toNatClampNeg * 12 + f (A' 6 (nI i).toNatClampNeg).toNatClampNeg).toNatClampNeg v = upd (K' i) (12 * l + s) (NX A n ps i l s) := by
        rintro v rfl
        rw [eAt, cl (by omega)]
      have hKU := KV_upd hKV' hn12 (i := i) (l := l) hs
      refine And.intro i0 ?_
      rcases h8 (show i < 8 by omega) with rfl | rfl | rfl | rfl | rfl | rfl | rfl | rfl
      · refine ⟨2 + 0, rfl, ?_⟩
        refine And.intro i0 (And.intro i5 (And.intro i0 (And.intro i6 (And.intro iAt ?_))))
        refine And.intro (fun g2 => ?_) (fun g2 => ?_)
        · have g2 : 0 ≤ K' 0 (f (A' 5 (nI 0).toNatClampNeg).toNatClampNeg * 12 + f (A' 6 (nI 0).toNatClampNeg).toNatClampNeg).toNatClampNeg := g2
          have e : K' 0 (f (A' 5 (nI 0).toNatClampNeg).toNatClampNeg * 12 + f (A' 6 (nI 0).toNatClampNeg).toNatClampNeg).toNatClampNeg = NX A n ps 0 l s := by
            rw [hKn] at g2 ⊢
            rcases hK with q | q
            · rw [q] at g2
              exact absurd g2 (by decide)
            · exact q
          refine And.intro i0 ?_
          exact ⟨k - (0 + 1), by omega, rfl, rfl, 0 + 1, K', A', hlt, rfl, rfl, spset (eT _ e), hKV', hA'⟩
        · refine And.intro i0 (And.intro i0 ?_)
          refine sumSP hL' (fun A2 hA2 => ?_)
          refine crdSP hn hn2 hn12 ?_
          refine And.intro iAt (And.intro i0 ?_)
          exact ⟨k - (0 + 1), by omega, rfl, rfl, 0 + 1, _, A2, hlt, rfl, rfl, spset2_0 (eG _ eV) (eT _ eV), hKU, fun p p1 p2 => (hA2 p p1 p2).trans (hA' p p1 p2)⟩
      · refine ⟨2 + 1, rfl, ?_⟩
        refine And.intro i0 (And.intro i5 (And.intro i0 (And.intro i6 (And.intro iAt ?_))))
        refine And.intro (fun g2 => ?_) (fun g2 => ?_)
        · have g2 : 0 ≤ K' 1 (f (A' 5 (nI 1).toNatClampNeg).toNatClampNeg * 12 + f (A' 6 (nI 1).toNatClampNeg).toNatClampNeg).toNatClampNeg := g2
          have e : K' 1 (f (A' 5 (nI 1).toNatClampNeg).toNatClampNeg * 12 + f (A' 6 (nI 1).toNatClampNeg).toNatClampNeg).toNatClampNeg = NX A n ps 1 l s := by
            rw [hKn] at g2 ⊢
            rcases hK with q | q
            · rw [q] at g2
              exact absurd g2 (by decide)
            · exact q
          refine And.intro i0 ?_
          exact ⟨k - (1 + 1), by omega, rfl, rfl, 1 + 1, K', A', hlt, rfl, rfl, spset (eT _ e), hKV', hA'⟩
        · refine And.intro i0 (And.intro i0 ?_)
          refine sumSP hL' (fun A2 hA2 => ?_)
          refine crdSP hn hn2 hn12 ?_
          refine And.intro iAt (And.intro i0 ?_)
          exact ⟨k - (1 + 1), by omega, rfl, rfl, 1 + 1, _, A2, hlt, rfl, rfl, spset2_1 (eG _ eV) (eT _ eV), hKU, fun p p1 p2 => (hA2 p p1 p2).trans (hA' p p1 p2)⟩
      · refine ⟨2 + 2, rfl, ?_⟩
        refine And.intro i0 (And.intro i5 (And.intro i0 (And.intro i6 (And.intro iAt ?_))))
        refine And.intro (fun g2 => ?_) (fun g2 => ?_)
        · have g2 : 0 ≤ K' 2 (f (A' 5 (nI 2).toNatClampNeg).toNatClampNeg * 12 + f (A' 6 (nI 2).toNatClampNeg).toNatClampNeg).toNatClampNeg := g2
          have e : K' 2 (f (A' 5 (nI 2).toNatClampNeg).toNatClampNeg * 12 + f (A' 6 (nI 2).toNatClampNeg).toNatClampNeg).toNatClampNeg = NX A n ps 2 l s := by
            rw [hKn] at g2 ⊢
            rcases hK with q | q
            · rw [q] at g2
              exact absurd g2 (by decide)
            · exact q
          refine And.intro i0 ?_
          exact ⟨k - (2 + 1), by omega, rfl, rfl, 2 + 1, K', A', hlt, rfl, rfl, spset (eT _ e), hKV', hA'⟩
        · refine And.intro i0 (And.intro i0 ?_)
          refine sumSP hL' (fun A2 hA2 => ?_)
          refine crdSP hn hn2 hn12 ?_
          refine And.intro iAt (And.intro i0 ?_)
          exact ⟨k - (2 + 1), by omega, rfl, rfl, 2 + 1, _, A2, hlt, rfl, rfl, spset2_2 (eG _ eV) (eT _ eV), hKU, fun p p1 p2 => (hA2 p p1 p2).trans (hA' p p1 p2)⟩
      · refine ⟨2 + 3, rfl, ?_⟩
        refine And.intro i0 (And.intro i5 (And.intro i0 (And.intro i6 (And.intro iAt ?_))))
        refine And.intro (fun g2 => ?_) (fun g2 => ?_)
        · have g2 : 0 ≤ K' 3 (f (A' 5 (nI 3).toNatClampNeg).toNatClampNeg * 12 + f (A' 6 (nI 3).toNatClampNeg).toNatClampNeg).toNatClampNeg := g2
          have e : K' 3 (f (A' 5 (nI 3).toNatClampNeg).toNatClampNeg * 12 + f (A' 6 (nI 3).toNatClampNeg).toNatClampNeg).toNatClampNeg = NX A n ps 3 l s := by
            rw [hKn] at g2 ⊢
            rcases hK with q | q
            · rw [q] at g2
              exact absurd g2 (by decide)
            · exact q
          refine And.intro i0 ?_
          exact ⟨k - (3 + 1), by omega, rfl, rfl, 3 + 1, K', A', hlt, rfl, rfl, spset (eT _ e), hKV', hA'⟩
        · refine And.intro i0 (And.intro i0 ?_)
          refine sumSP hL' (fun A2 hA2 => ?_)
          refine crdSP hn hn2 hn12 ?_
          refine And.intro iAt (And.intro i0 ?_)
          exact ⟨k - (3 + 1), by omega, rfl, rfl, 3 + 1, _, A2, hlt, rfl, rfl, spset2_3 (eG _ eV) (eT _ eV), hKU, fun p p1 p2 => (hA2 p p1 p2).trans (hA' p p1 p2)⟩
      · refine ⟨2 + 4, rfl, ?_⟩
        refine And.intro i0 (And.intro i5 (And.intro i0 (And.intro i6 (And.intro iAt ?_))))
        refine And.intro (fun g2 => ?_) (fun g2 => ?_)
        · have g2 : 0 ≤ K' 4 (f (A' 5 (nI 4).toNatClampNeg).toNatClampNeg * 12 + f (A' 6 (nI 4).toNatClampNeg).toNatClampNeg).toNatClampNeg := g2
          have e : K' 4 (f (A' 5 (nI 4).toNatClampNeg).toNatClampNeg * 12 + f (A' 6 (nI 4).toNatClampNeg).toNatClampNeg).toNatClampNeg = NX A n ps 4 l s := by
            rw [hKn] at g2 ⊢
            rcases hK with q | q
            · rw [q] at g2
              exact absurd g2 (by decide)
            · exact q
          refine And.intro i0 ?_
          exact ⟨k - (4 + 1), by omega, rfl, rfl, 4 + 1, K', A', hlt, rfl, rfl, spset (eT _ e), hKV', hA'⟩
        · refine And.intro i0 (And.intro i0 ?_)
          refine sumSP hL' (fun A2 hA2 => ?_)
          refine crdSP hn hn2 hn12 ?_
          refine And.intro iAt (And.intro i0 ?_)
          exact ⟨k - (4 + 1), by omega, rfl, rfl, 4 + 1, _, A2, hlt, rfl, rfl, spset2_4 (eG _ eV) (eT _ eV), hKU, fun p p1 p2 => (hA2 p p1 p2).trans (hA' p p1 p2)⟩
      · refine ⟨2 + 5, rfl, ?_⟩
        refine And.intro i0 (And.intro i5 (And.intro i0 (And.intro i6 (And.intro iAt ?_))))
        refine And.intro (fun g2 => ?_) (fun g2 => ?_)
        · have g2 : 0 ≤ K' 5 (f (A' 5 (nI 5).toNatClampNeg).toNatClampNeg * 12 + f (A' 6 (nI 5).toNatClampNeg).toNatClampNeg).toNatClampNeg := g2
          have e : K' 5 (f (A' 5 (nI 5).toNatClampNeg).toNatClampNeg * 12 + f (A' 6 (nI 5).toNatClampNeg).toNatClampNeg).toNatClampNeg = NX A n ps 5 l s := by
            rw [hKn] at g2 ⊢
            rcases hK with q | q
            · rw [q] at g2
              exact absurd g2 (by decide)
            · exact q
          refine And.intro i0 ?_
          exact ⟨k - (5 + 1), by omega, rfl, rfl, 5 + 1, K', A', hlt, rfl, rfl, spset (eT _ e), hKV', hA'⟩
        · refine And.intro i0 (And.intro i0 ?_)
          refine sumSP hL' (fun A2 hA2 => ?_)
          refine crdSP hn hn2 hn12 ?_
          refine And.intro iAt (And.intro i0 ?_)
          exact ⟨k - (5 + 1), by omega, rfl, rfl, 5 + 1, _, A2, hlt, rfl, rfl, spset2_5 (eG _ eV) (eT _ eV), hKU, fun p p1 p2 => (hA2 p p1 p2).trans (hA' p p1 p2)⟩
      · refine ⟨2 + 6, rfl, ?_⟩
        refine And.intro i0 (And.intro i5 (And.intro i0 (And.intro i6 (And.intro iAt ?_))))
        refine And.intro (fun g2 => ?_) (fun g2 => ?_)
        · have g2 : 0 ≤ K' 6 (f (A' 5 (nI 6).toNatClampNeg).toNatClampNeg * 12 + f (A' 6 (nI 6).toNatClampNeg).toNatClampNeg).toNatClampNeg := g2
          have e : K' 6 (f (A' 5 (nI 6).toNatClampNeg).toNatClampNeg * 12 + f (A' 6 (nI 6).toNatClampNeg).toNatClampNeg).toNatClampNeg = NX A n ps 6 l s := by
            rw [hKn] at g2 ⊢
            rcases hK with q | q
            · rw [q] at g2
              exact absurd g2 (by decide)
            · exact q
          refine And.intro i0 ?_
          exact ⟨k - (6 + 1), by omega, rfl, rfl, 6 + 1, K', A', hlt, rfl, rfl, spset (eT _ e), hKV', hA'⟩
        · refine And.intro i0 (And.intro i0 ?_)
          refine sumSP hL' (fun A2 hA2 => ?_)
          refine crdSP hn hn2 hn12 ?_
          refine And.intro iAt (And.intro i0 ?_)
          exact ⟨k - (6 + 1), by omega, rfl, rfl, 6 + 1, _, A2, hlt, rfl, rfl, spset2_6 (eG _ eV) (eT _ eV), hKU, fun p p1 p2 => (hA2 p p1 p2).trans (hA' p p1 p2)⟩
      · refine ⟨2 + 7, rfl, ?_⟩
        refine And.intro i0 (And.intro i5 (And.intro i0 (And.intro i6 (And.intro iAt ?_))))
        refine And.intro (fun g2 => ?_) (fun g2 => ?_)
        · have g2 : 0 ≤ K' 7 (f (A' 5 (nI 7).toNatClampNeg).toNatClampNeg * 12 + f (A' 6 (nI 7).toNatClampNeg).toNatClampNeg).toNatClampNeg := g2
          have e : K' 7 (f (A' 5 (nI 7).toNatClampNeg).toNatClampNeg * 12 + f (A' 6 (nI 7).toNatClampNeg).toNatClampNeg).toNatClampNeg = NX A n ps 7 l s := by
            rw [hKn] at g2 ⊢
            rcases hK with q | q
            · rw [q] at g2
              exact absurd g2 (by decide)
            · exact q
          refine And.intro i0 ?_
          exact ⟨k - (7 + 1), by omega, rfl, rfl, 7 + 1, K', A', hlt, rfl, rfl, spset (eT _ e), hKV', hA'⟩
        · refine And.intro i0 (And.intro i0 ?_)
          refine sumSP hL' (fun A2 hA2 => ?_)
          refine crdSP hn hn2 hn12 ?_
          refine And.intro iAt (And.intro i0 ?_)
          exact ⟨k - (7 + 1), by omega, rfl, rfl, 7 + 1, _, A2, hlt, rfl, rfl, spset2_7 (eG _ eV) (eT _ eV), hKU, fun p p1 p2 => (hA2 p p1 p2).trans (hA' p p1 p2)⟩
