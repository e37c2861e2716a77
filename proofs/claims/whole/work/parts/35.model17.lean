/-! ===== the reference: coughs, others, heard, gone ===== -/
/-- how many of the first c are so, up to the first that isn't -/
noncomputable def lead (p : Nat → Prop) : Nat → Nat
  | 0 => 0
  | c + 1 => cif (lead p c = c ∧ p c) (c + 1) (lead p c)
theorem lead_go {p : Nat → Prop} {c : Nat} (h : lead p c = c) (hp : p c) : lead p (c + 1) = c + 1 := cif_t ⟨h, hp⟩
theorem lead_stop {p : Nat → Prop} {c : Nat} (h : lead p c = c) (hp : ¬ p c) : ∀ m, c ≤ m → lead p m = c := by
  intro m hm
  induction m with
  | zero =>
    rw [show c = 0 by omega]
    rfl
  | succ m ih =>
    rcases Nat.lt_or_ge m c with q | q
    · rw [show m + 1 = c by omega]
      exact h
    · have h2 := ih q
      unfold lead
      rw [cif_f, h2]
      rintro ⟨a, b⟩
      rw [h2] at a
      rw [← a] at b
      exact hp b
/-- the notes of now, one coughed over -/
def cgh (d : Nat → Int32) (i : Nat) (x : Int32) : Nat → Int32 := upd (nw d) i (rm (nw d i + x) (d 1))
def sX10_coughs : XS := fun as w post => ∃ (A : XA) (F : Nat → Int32) (n k i : Nat) (x : Int32), as = [.ref 0, .int (nI i), .int x] ∧ w = LM A F ∧ A 1 1 = nI n ∧ 2 ≤ n ∧ n ≤ 12 ∧ A 1 2 = nI k ∧ k ≤ 8 ∧ i < k ∧ ∀ A', (∀ p, p ≠ 5 → p ≠ 6 → A' p = A p) → (∀ t, t < k → A' 5 t = nw (A 1) t) → (∀ t, t < k → A' 6 t = cgh (A 1) i x t) → post none (LM A' F)
theorem lset6 {F : Nat → Int32} (B : XA) (f f' : Nat → Int32) (h2 : f = f') : List.set (LM B F) 6 (.inl (0, 8, .inl f)) = LM (aset B 6 f') F := by
  subst h2
  rfl
set_option maxRecDepth 10000 in
set_option maxHeartbeats 1000000 in
theorem mX10_coughs (d : Nat) (hd : 2 ≤ d) : xCT d yX10_coughs cX10_coughs 3 none sX10_coughs := by
  obtain ⟨d, rfl⟩ : ∃ e, d = e + 1 := ⟨d - 1, by omega⟩
  refine xmet0 (tb := tX10_coughs) (fl := fX10) (kc := nX10) (gs := g0) (cl := xlk [(185, true, 2, xrcv 10 (sX10_begins))]) 400 (by decide) tX10_coughs_ok fX10_ok nX10_ok g0_ok (xg_cons (k_X10_185 (mX10_begins d (by omega))) xg_nil) ?_
  rintro L xs as w Qp ⟨A, F, n, k, i, x, rfl, rfl, hn, hn2, hn12, hk, hk8, hi, h⟩
  refine ⟨Nat.le_of_ble_eq_true rfl, ?_⟩
  refine ⟨5, by omega, A, F, k, rfl, rfl, hk, hk8, ?_⟩
  refine ⟨6, by omega, _, F, k, rfl, rfl, hk, hk8, ?_⟩
  refine And.intro (vp_in_nI (by omega) (by decide)) (And.intro (vl 1 250 rfl rfl) (And.intro ?_ (And.intro (vp_in_nI (by omega) (by decide)) ?_)))
  · show ¬ A 1 1 = 0
    rw [hn]
    exact nI_ne0 (by omega) (by omega)
  · have e : upd (nts (A 1) k (A 6)) (nI i).toNatClampNeg (rm (nts (A 1) k (A 6) (nI i).toNatClampNeg + x) (A 1 1)) = upd (nts (A 1) k (A 6)) i (rm (nw (A 1) i + x) (A 1 1)) := by
      rw [cl (by omega), nts_nw _ i hi]
    refine fa_post (P := fun w => Qp none w) (lset6 (aset (aset A 5 (nts (A 1) k (A 5))) 6 (nts (A 1) k (A 6))) _ _ e) ?_
    rw [aset_aset]
    refine h _ (fun p p5 p6 => ?_) (fun t ht => ?_) (fun t ht => ?_)
    · rw [aset_n p6, aset_n p5]
    · rw [aset_n (by omega), aset_s]
      exact nts_nw _ t ht
    · rw [aset_s]
      exact upd_cg (nts_nw _) t ht
noncomputable def oth (a b : Nat → Int32) : Nat → Int32
  | 0 => 0
  | s + 1 => oth a b s ||| cif (a s = b s) 0 ((1 : Int32) <<< (nI s &&& 31))
theorem oth_cg {a b a' b' : Nat → Int32} : ∀ k, (∀ t, t < k → a t = a' t) → (∀ t, t < k → b t = b' t) → oth a b k = oth a' b' k
  | 0, _, _ => rfl
  | k + 1, h1, h2 => by
    show oth a b k ||| cif (a k = b k) 0 ((1 : Int32) <<< (nI k &&& 31)) = oth a' b' k ||| cif (a' k = b' k) 0 ((1 : Int32) <<< (nI k &&& 31))
    rw [oth_cg k (fun t ht => h1 t (by omega)) (fun t ht => h2 t (by omega)), h1 k (by omega), h2 k (by omega)]
def sX10_others : XS := fun as w post => ∃ (A : XA) (F : Nat → Int32) (k : Nat), as = [.ref 0] ∧ w = LM A F ∧ A 1 2 = nI k ∧ k ≤ 8 ∧ post (some (.int (oth (A 5) (A 6) k))) (LM A F)
set_option maxRecDepth 10000 in
set_option maxHeartbeats 1000000 in
theorem mX10_others (d : Nat) (hd : 0 ≤ d) : xCT d yX10_others cX10_others 3 (some .int) sX10_others := by
  refine xmet (tb := tX10_others) (fl := fX10) (kc := nX10) (gs := g0) (cl := xlk []) (by decide) tX10_others_ok fX10_ok nX10_ok g0_ok xg_nil ?_
  rintro L xs as w Qp ⟨A, F, k, rfl, rfl, hk, hk8, h⟩
  refine ⟨Nat.le_of_ble_eq_true rfl, 400, xlk [(4, 3)], fun m pc ls st w => pc = 4 ∧ st = [] ∧ ∃ s, s ≤ k ∧ m = k - s ∧ ls = [(0, .ref 0), (1, .int (oth (A 5) (A 6) s)), (2, .int (nI s))] ∧ w = LM A F, ?_, ?_⟩
  · exact ⟨k, rfl, rfl, 0, Nat.zero_le _, rfl, rfl, rfl⟩
  · rintro m pc m9 ls st w hc ⟨rfl, rfl, s, hs, rfl, rfl, rfl⟩
    refine And.intro (vl 2 250 rfl rfl) ?_
    refine And.intro (fun g => ?_) (fun g => ?_)
    · have := ge_n hk (by omega) (by omega) g
      rw [show s = k by omega]
      exact h
    · have hlt := nge_n hk (by omega) (by omega) g
      refine And.intro (vp_in_nI (by omega) (by decide)) (And.intro (vp_in_nI (by omega) (by decide)) ?_)
      refine And.intro (fun g2 => ?_) (fun g2 => ?_)
      · have g2 : A 5 (nI s).toNatClampNeg = A 6 (nI s).toNatClampNeg := g2
        rw [cl (by omega)] at g2
        refine ⟨k - (s + 1), by omega, rfl, rfl, s + 1, hlt, rfl, ?_, rfl⟩
        have e : oth (A 5) (A 6) (s + 1) = oth (A 5) (A 6) s ||| 0 := by
          show oth (A 5) (A 6) s ||| cif (A 5 s = A 6 s) 0 ((1 : Int32) <<< (nI s &&& 31)) = _
          rw [cif_t g2]
        rw [e, ← nI_1]
        rfl
      · have g2 : ¬ A 5 (nI s).toNatClampNeg = A 6 (nI s).toNatClampNeg := g2
        rw [cl (by omega)] at g2
        refine ⟨k - (s + 1), by omega, rfl, rfl, s + 1, hlt, rfl, ?_, rfl⟩
        have e : oth (A 5) (A 6) (s + 1) = oth (A 5) (A 6) s ||| ((1 : Int32) <<< (nI s &&& 31)) := by
          show oth (A 5) (A 6) s ||| cif (A 5 s = A 6 s) 0 ((1 : Int32) <<< (nI s &&& 31)) = _
          rw [cif_f g2]
        rw [e, ← nI_1]
        rfl
def CZ (A : XA) (F : Nat → Int32) (A' : XA) (F' : Nat → Int32) : Prop := (∀ p, p ≠ 4 → p ≠ 5 → p ≠ 6 → p ≠ 7 → A' p = A p) ∧ FW F F'
theorem CZ.per {A A' : XA} {F F' : Nat → Int32} (h : CZ A F A' F') : per A F A' F' := ⟨h.1 1 (by omega) (by omega) (by omega) (by omega), h.1 2 (by omega) (by omega) (by omega) (by omega), h.1 3 (by omega) (by omega) (by omega) (by omega), h.1 14 (by omega) (by omega) (by omega) (by omega), h.1 15 (by omega) (by omega) (by omega) (by omega), h.1 16 (by omega) (by omega) (by omega) (by omega), h.1 17 (by omega) (by omega) (by omega) (by omega), h.2 2 (by omega), h.2 24 (by omega)⟩
theorem CZ.one {A A' : XA} {F F' : Nat → Int32} (h : CZ A F A' F') : A' 1 = A 1 := h.1 1 (by omega) (by omega) (by omega) (by omega)
theorem CZ.t {A B C : XA} {F G H : Nat → Int32} (h1 : CZ A F B G) (h2 : CZ B G C H) : CZ A F C H := ⟨fun p a b c d => (h2.1 p a b c d).trans (h1.1 p a b c d), fun q a => (h2.2 q a).trans (h1.2 q a)⟩
theorem CZ.rs {r : Nat} (hr : r = 5 ∨ r = 6) {A A' : XA} {F F' : Nat → Int32} (h : RS r A F A' F') : CZ A F A' F' := ⟨fun p a b c d => h.1 p a d (by omega), h.2⟩
noncomputable def qheard (s x m : Int32) (A : XA) (F : Nat → Int32) : XR := cif (isS (A 1) s ∧ (1 ≤ x ∧ x ≤ 11) ∧ (0 ≤ m ∧ m ≤ 200)) (oth (itr (A 1) (kN A) m.toNatClampNeg (nw (A 1))) (itr (A 1) (kN A) m.toNatClampNeg (cgh (A 1) s.toNatClampNeg x)) (kN A), A, F) (eR 1 A F)
def sX10_heard : XS := fun as w post => ∃ (A : XA) (F : Nat → Int32) (s x m : Int32) (n k : Nat), as = [.ref 0, .int s, .int x, .int m] ∧ w = LM A F ∧ DI (A 1) n k ∧ TXO (A 1) 0 ∧ sQ (qheard s x m A F) post
set_option maxRecDepth 10000 in
set_option maxHeartbeats 1000000 in
theorem mX10_heard (d : Nat) (hd : 65 ≤ d) : xCT d yX10_heard cX10_heard 4 (some .int) sX10_heard := by
  obtain ⟨d, rfl⟩ : ∃ e, d = e + 1 := ⟨d - 1, by omega⟩
  refine xmet0 (tb := tX10_heard) (fl := fX10) (kc := nX10) (gs := g0) (cl := xlk [(163, true, 2, xrcv 10 (sX10_isSinger)), (65, false, 3, sX10_in), (128, true, 2, xrcv 10 (sX10_finds)), (249, true, 3, xrcv 10 (sX10_coughs)), (188, true, 3, xrcv 10 (sX10_goesOn)), (253, true, 1, xrcv 10 (sX10_others))]) 400 (by decide) tX10_heard_ok fX10_ok nX10_ok g0_ok (xg_cons (k_X10_163 (mX10_isSinger d (by omega))) (xg_cons (k_X10_65 (mX10_in d (by omega))) (xg_cons (k_X10_128 (mX10_finds d (by omega))) (xg_cons (k_X10_249 (mX10_coughs d (by omega))) (xg_cons (k_X10_188 (mX10_goesOn d (by omega))) (xg_cons (k_X10_253 (mX10_others d (by omega))) xg_nil)))))) ?_
  rintro L xs as w Qp ⟨A, F, s, x, m, n, k, rfl, rfl, hI, hT, h⟩
  obtain ⟨hn, hn2, hn12, hk, hk8, -⟩ := id hI
  obtain ⟨eN, eK⟩ := DI_nk hI
  refine ⟨Nat.le_of_ble_eq_true rfl, ?_⟩
  refine ⟨A, F, s, k, rfl, rfl, hk, hk8, fun i hi es => ?_, fun g => ?_⟩
  · refine br_f xc_eq1 ?_
    refine ⟨x, 1, 11, rfl, fun g1 g2 => ?_, fun g => ?_⟩
    · refine br_f xc_eq1 ?_
      refine ⟨m, 0, 200, rfl, fun g3 g4 => ?_, fun g => ?_⟩
      · refine br_t xc_ne1 ?_
        subst es
        have e0 : qheard (nI i) x m A F = _ := cif_t' ⟨isS_i hk hk8 hi, ⟨g1, g2⟩, ⟨g3, g4⟩⟩ rfl
        obtain ⟨M, hM, eM⟩ := rg (c := 200) (by omega) g3 g4
        subst eM
        rw [eK, cl (by omega), cl (by omega)] at e0
        refine ⟨A, F, n, k, i, x, rfl, rfl, hn, hn2, hn12, hk, hk8, hi, fun A1 hA1 a5 a6 => ?_⟩
        have e11 : A1 1 = A 1 := hA1 1 (by omega) (by omega)
        refine ⟨5, by omega, A1, F, n, k, M, rfl, rfl, by rw [e11]; exact hI, by rw [e11]; exact hT, by omega, fun A2 F2 h2 hR2 => ?_⟩
        have e12 : A2 1 = A 1 := (hR2.1 1 (by omega) (by omega) (by omega)).trans e11
        have e26 : A2 6 = A1 6 := hR2.1 6 (by omega) (by omega) (by omega)
        refine ⟨6, by omega, A2, F2, n, k, M, rfl, rfl, by rw [e12]; exact hI, by rw [e12]; exact hT, by omega, fun A3 F3 h3 hR3 => ?_⟩
        have e13 : A3 1 = A 1 := (hR3.1 1 (by omega) (by omega) (by omega)).trans e12
        have e35 : A3 5 = A2 5 := hR3.1 5 (by omega) (by omega) (by omega)
        refine ⟨A3, F3, k, rfl, rfl, by rw [e13]; exact hk, hk8, ?_⟩
        have ev : oth (A3 5) (A3 6) k = oth (itr (A 1) k M (nw (A 1))) (itr (A 1) k M (cgh (A 1) i x)) k := by
          refine oth_cg k (fun t ht => ?_) (fun t ht => ?_)
          · rw [e35, h2, e11]
            exact itr_cg hI a5 M t ht
          · rw [h3, e12, e26]
            exact itr_cg hI a6 M t ht
        have hq := sQ_p h e0 ((show CZ A F A3 F3 from CZ.t (CZ.t ⟨fun p _ p5 p6 _ => hA1 p p5 p6, fun _ _ => rfl⟩ (CZ.rs (by omega) hR2)) (CZ.rs (by omega) hR3)).per)
        rw [← ev] at hq
        exact hq
      · refine br_f xc_ne0 ?_
        refine ⟨A, F, 1, rfl, rfl, by decide, ?_⟩
        exact sQ_e h (cif_f' (fun q => g q.2.2) rfl)
    · refine br_t xc_eq0 ?_
      refine ⟨A, F, 1, rfl, rfl, by decide, ?_⟩
      exact sQ_e h (cif_f' (fun q => g q.2.1) rfl)
  · refine br_t xc_eq0 ?_
    refine ⟨A, F, 1, rfl, rfl, by decide, ?_⟩
    exact sQ_e h (cif_f' (fun q => isS_n hk hk8 g q.1) rfl)
noncomputable def otm (A : XA) (i : Nat) (x : Int32) (m : Nat) : Int32 := oth (itr (A 1) (kN A) m (nw (A 1))) (itr (A 1) (kN A) m (cgh (A 1) i x)) (kN A)
noncomputable def qgone (s x : Int32) (A : XA) (F : Nat → Int32) : XR := cif (isS (A 1) s ∧ (1 ≤ x ∧ x ≤ 11)) (cif (lead (fun m => ¬ otm A s.toNatClampNeg x m = 0) 201 = 201) (eR 2 A F) (nI (lead (fun m => ¬ otm A s.toNatClampNeg x m = 0) 201), A, F)) (eR 1 A F)
def sX10_gone : XS := fun as w post => ∃ (A : XA) (F : Nat → Int32) (s x : Int32) (n k : Nat), as = [.ref 0, .int s, .int x] ∧ w = LM A F ∧ DI (A 1) n k ∧ TXO (A 1) 0 ∧ sQ (qgone s x A F) post
set_option maxRecDepth 10000 in
set_option maxHeartbeats 1000000 in
theorem mX10_gone (d : Nat) (hd : 64 ≤ d) : xCT d yX10_gone cX10_gone 4 (some .int) sX10_gone := by
  obtain ⟨d, rfl⟩ : ∃ e, d = e + 1 := ⟨d - 1, by omega⟩
  refine xmet (tb := tX10_gone) (fl := fX10) (kc := nX10) (gs := g0) (cl := xlk [(163, true, 2, xrcv 10 (sX10_isSinger)), (65, false, 3, sX10_in), (128, true, 2, xrcv 10 (sX10_finds)), (249, true, 3, xrcv 10 (sX10_coughs)), (178, true, 2, xrcv 10 (sX10_goesBy)), (253, true, 1, xrcv 10 (sX10_others))]) (by decide) tX10_gone_ok fX10_ok nX10_ok g0_ok (xg_cons (k_X10_163 (mX10_isSinger d (by omega))) (xg_cons (k_X10_65 (mX10_in d (by omega))) (xg_cons (k_X10_128 (mX10_finds d (by omega))) (xg_cons (k_X10_249 (mX10_coughs d (by omega))) (xg_cons (k_X10_178 (mX10_goesBy d (by omega))) (xg_cons (k_X10_253 (mX10_others d (by omega))) xg_nil)))))) ?_
  rintro L xs as w Qp ⟨A, F, s, x, n, k, rfl, rfl, hI, hT, h⟩
  obtain ⟨hn, hn2, hn12, hk, hk8, -⟩ := id hI
  obtain ⟨eN, eK⟩ := DI_nk hI
  refine ⟨Nat.le_of_ble_eq_true rfl, 400, xlk [(34, 4)], fun m pc ls st w => pc = 34 ∧ st = [] ∧ ∃ i c A' F', i < k ∧ s = nI i ∧ (1 ≤ x ∧ x ≤ 11) ∧ c ≤ 201 ∧ m = 201 - c ∧ ls = [(0, .ref 0), (1, .int s), (2, .int x), (3, .int (nI c))] ∧ w = LM A' F' ∧ CZ A F A' F' ∧ (∀ t, t < k → A' 5 t = itr (A 1) k c (nw (A 1)) t) ∧ (∀ t, t < k → A' 6 t = itr (A 1) k c (cgh (A 1) i x) t) ∧ lead (fun m => ¬ otm A i x m = 0) c = c, ?_, ?_⟩
  · refine ⟨A, F, s, k, rfl, rfl, hk, hk8, fun i hi es => ?_, fun g => ?_⟩
    · refine br_f xc_eq1 ?_
      refine ⟨x, 1, 11, rfl, fun g1 g2 => ?_, fun g => ?_⟩
      · refine br_t xc_ne1 ?_
        subst es
        refine ⟨A, F, n, k, i, x, rfl, rfl, hn, hn2, hn12, hk, hk8, hi, fun A1 hA1 a5 a6 => ?_⟩
        exact ⟨201, rfl, rfl, i, 0, A1, F, hi, rfl, ⟨g1, g2⟩, Nat.zero_le _, rfl, rfl, rfl, ⟨fun p _ p5 p6 _ => hA1 p p5 p6, fun _ _ => rfl⟩, a5, a6, rfl⟩
      · refine br_f xc_ne0 ?_
        refine ⟨A, F, 1, rfl, rfl, by decide, ?_⟩
        exact sQ_e h (cif_f' (fun q => g q.2) rfl)
    · refine br_t xc_eq0 ?_
      refine ⟨A, F, 1, rfl, rfl, by decide, ?_⟩
      exact sQ_e h (cif_f' (fun q => isS_n hk hk8 g q.1) rfl)
  · rintro m pc m9 ls st w hc ⟨rfl, rfl, i, c, A', F', hi, rfl, g12, hc2, rfl, rfl, rfl, hC, a5, a6, hL⟩
    have e1 : A' 1 = A 1 := hC.one
    unfold qgone at h
    rw [cif_t ⟨isS_i hk hk8 hi, g12⟩, cl (by omega)] at h
    refine And.intro (fun g => ?_) (fun g => ?_)
    · have g : nI 200 < nI c := g
      rw [fa_lt, nI_toInt (by omega), nI_toInt (by omega)] at g
      have ec : c = 201 := by omega
      subst ec
      refine ⟨A', F', 2, rfl, rfl, by decide, ?_⟩
      rw [cif_t hL] at h
      exact sQ_p h rfl (per_er hC.per 2)
    · have g : ¬ nI 200 < nI c := g
      rw [fa_lt, nI_toInt (by omega), nI_toInt (by omega)] at g
      refine ⟨A', F', k, rfl, rfl, by rw [e1]; exact hk, hk8, ?_⟩
      have ev : oth (A' 5) (A' 6) k = otm A i x c := by
        unfold otm
        rw [eK]
        exact oth_cg k a5 a6
      refine And.intro (fun g2 => ?_) (fun g2 => ?_)
      · have g2 : ¬ oth (A' 5) (A' 6) k = 0 := g2
        rw [ev] at g2
        refine ⟨5, by omega, A', F', n, k, rfl, rfl, by rw [e1]; exact hI, by rw [e1]; exact hT, fun A2 F2 h2 hR2 => ?_⟩
        have e12 : A2 1 = A 1 := (hR2.1 1 (by omega) (by omega) (by omega)).trans e1
        have e26 : A2 6 = A' 6 := hR2.1 6 (by omega) (by omega) (by omega)
        refine ⟨6, by omega, A2, F2, n, k, rfl, rfl, by rw [e12]; exact hI, by rw [e12]; exact hT, fun A3 F3 h3 hR3 => ?_⟩
        have e35 : A3 5 = A2 5 := hR3.1 5 (by omega) (by omega) (by omega)
        refine ⟨201 - (c + 1), by omega, rfl, rfl, i, c + 1, A3, F3, hi, rfl, g12, by omega, rfl, by rw [← nI_1]; rfl, rfl, (hC.t (CZ.rs (by omega) hR2)).t (CZ.rs (by omega) hR3), fun t ht => ?_, fun t ht => ?_, lead_go hL g2⟩
        · rw [e35, h2, e1]
          exact stp_cg hI a5 t ht
        · rw [h3, e12, e26]
          exact stp_cg hI a6 t ht
      · have g2 : oth (A' 5) (A' 6) k = 0 := Classical.byContradiction g2
        rw [ev] at g2
        have hs := lead_stop hL (fun q => q g2) 201 hc2
        rw [hs, cif_f (by omega)] at h
        exact sQ_p h rfl hC.per
