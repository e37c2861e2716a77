/-! ===== the class: all states: rounds, nobody's ===== -/
theorem acset2 {A : XA} {F u u' : Nat → Int32} (h : u = u') : List.set (AC A F) 2 (.inl (0, 3000, .inl u)) = AC (aset A 2 u') F := by
  subst h
  rfl
def sX0_behindNone : XS := fun as w post => ∃ (A : XA) (F : Nat → Int32) (b : Nat → Nat) (N : Nat), as = [.ref 0] ∧ w = AC A F ∧ BH A F b N ∧ ∀ A', sm [2] A' A → post (some (.int (nev b N N))) (AC A' F)
set_option maxRecDepth 10000 in
set_option maxHeartbeats 1000000 in
theorem mX0_behindNone (d : Nat) (hd : 1 ≤ d) : xCT d yX0_behindNone cX0_behindNone 3 (some .int) sX0_behindNone := by
  obtain ⟨d, rfl⟩ : ∃ e, d = e + 1 := ⟨d - 1, by omega⟩
  refine xmet (tb := tX0_behindNone) (fl := fX0) (kc := nX0) (gs := g0) (cl := xlk [(48, false, 2, xfrE sJ7_fill_53178)]) (by decide) tX0_behindNone_ok fX0_ok nX0_ok g0_ok (xg_cons (k_X0_48 (xCT_frE (mJ7_fill_53178 d (by omega)))) xg_nil) ?_
  rintro L xs as w Qp ⟨A, F, b, N, rfl, rfl, ⟨h63, hN, hb⟩, h⟩
  refine ⟨Nat.le_of_ble_eq_true rfl, 400, xlk [(15, 3)], fun m pc ls st w => pc = 15 ∧ st = [] ∧ ∃ c v A', c ≤ N ∧ m = N - c ∧ v = nev b N c ∧ ls = [(0, .ref 0), (1, .int v), (2, .int (nI c))] ∧ w = AC A' F ∧ sm [2] A' A ∧ (∀ x, x < N → (A' 2 x = 0 ↔ ¬ ∃ y, y < c ∧ b y = x)), ?_, ?_⟩
  · refine ⟨[2], [.ref 0, .int 0], [.inl (0, 3000, .inl (A 2))], rfl, rfl, rfl, 3000, A 2, 0, rfl, rfl, by decide, ?_⟩
    refine ⟨N, rfl, rfl, 0, F 63, aset A 2 (cpU (fun _ => 0) (A 2) 3000), Nat.zero_le _, rfl, h63, rfl, rfl, sm_aset rfl, fun x hx => ?_⟩
    have e : cpU (fun _ => (0 : Int32)) (A 2) 3000 x = 0 := if_pos (by omega)
    exact ⟨fun _ ⟨y, hy, _⟩ => absurd hy (Nat.not_lt_zero _), fun _ => e⟩
  · rintro m pc m9 ls st w hc ⟨rfl, rfl, c, v, A', hcn, rfl, hv, rfl, rfl, hS, h2⟩
    refine And.intro (fun g => ?_) (fun g => ?_)
    · have := ge_n h63 (by omega) (by omega) g
      have ec : c = N := by omega
      have h9 := h A' hS
      rw [ec] at hv
      rw [← hv] at h9
      exact h9
    · have hlt := nge_n h63 (by omega) (by omega) g
      obtain ⟨hb1, hbc⟩ := hb c hlt
      have ex : A' 1 (nI c).toNatClampNeg = nI (b c) := by rw [cl (by omega), hS 1 rfl]; exact hb1
      have i1 : vp_in (nI c) 3000 := vp_in_nI (by omega) (by decide)
      have i2 : vp_in (A' 1 (nI c).toNatClampNeg) 3000 := by rw [ex]; exact vp_in_nI (by omega) (by decide)
      have ez : A' 2 (A' 1 (nI c).toNatClampNeg).toNatClampNeg = A' 2 (b c) := by rw [ex, cl (by omega)]
      have eu : upd (A' 2) (A' 1 (nI c).toNatClampNeg).toNatClampNeg 1 = upd (A' 2) (b c) 1 := by rw [ex, cl (by omega)]
      have h12' : ∀ x, x < N → (upd (A' 2) (b c) 1 x = 0 ↔ ¬ ∃ y, y < c + 1 ∧ b y = x) := by
        intro x hx
        by_cases q : x = b c
        · subst q
          rw [pk_us]
          exact ⟨fun q => absurd q x10, fun q => absurd ⟨c, Nat.lt_succ_self c, rfl⟩ q⟩
        · rw [pk_un q, h2 x hx]
          constructor
          · rintro q2 ⟨y, hy, ey⟩
            by_cases q3 : y = c
            · subst q3
              exact q ey.symm
            · exact q2 ⟨y, by omega, ey⟩
          · rintro q2 ⟨y, hy, ey⟩
            exact q2 ⟨y, by omega, ey⟩
      refine And.intro i1 (And.intro i2 ?_)
      refine And.intro (fun g2 => ?_) (fun g2 => ?_)
      · have g2 : ¬ A' 2 (A' 1 (nI c).toNatClampNeg).toNatClampNeg = 0 := g2
        rw [ez, h2 _ hbc] at g2
        refine And.intro i1 (And.intro i2 ?_)
        have e : nev b N (c + 1) = nev b N c := cif_t (Classical.byContradiction g2)
        exact ⟨N - (c + 1), by omega, rfl, rfl, c + 1, v, _, hlt, rfl, by rw [e]; exact hv, by rw [← nI_1 c]; rfl, acset2 eu, sm_tr hS (sm_aset rfl), h12'⟩
      · have g2 : A' 2 (A' 1 (nI c).toNatClampNeg).toNatClampNeg = 0 := Classical.byContradiction g2
        rw [ez, h2 _ hbc] at g2
        refine And.intro i1 (And.intro i2 ?_)
        have e : nev b N (c + 1) = nev b N c - 1 := cif_f g2
        exact ⟨N - (c + 1), by omega, rfl, rfl, c + 1, v + Int32.ofInt (-1), _, hlt, rfl, by rw [e, hv, Int32.sub_eq_add_neg]; rfl, by rw [← nI_1 c]; rfl, acset2 eu, sm_tr hS (sm_aset rfl), h12'⟩
def sX0_roundFrom : XS := fun as w post => ∃ (A : XA) (F : Nat → Int32) (b : Nat → Nat) (N a : Nat), as = [.ref 0, .int (nI a)] ∧ w = AC A F ∧ BH A F b N ∧ a < N ∧ ∀ v, v = nI (cyc b N a) → post (some (.int v)) (AC A F)
set_option maxRecDepth 10000 in
set_option maxHeartbeats 1000000 in
theorem mX0_roundFrom (d : Nat) (hd : 0 ≤ d) : xCT d yX0_roundFrom cX0_roundFrom 4 (some .int) sX0_roundFrom := by
  refine xmet (tb := tX0_roundFrom) (fl := fX0) (kc := nX0) (gs := g0) (cl := xlk []) (by decide) tX0_roundFrom_ok fX0_ok nX0_ok g0_ok xg_nil ?_
  rintro L xs as w Qp ⟨A, F, b, N, a, rfl, rfl, ⟨h63, hN, hb⟩, ha, h⟩
  have hit : ∀ m, itN b m a < N := itN_lt (fun c hc => (hb c hc).2) a ha
  refine ⟨Nat.le_of_ble_eq_true rfl, 400, xlk [(9, 4)], fun m pc ls st w => pc = 9 ∧ st = [] ∧ ∃ t v, t < N ∧ m = N - t ∧ v = nI (itN b (t + 1) a) ∧ ls = [(0, .ref 0), (1, .int (nI a)), (2, .int v), (3, .int (nI (t + 1)))] ∧ w = AC A F ∧ lead (fun t => ¬ itN b (t + 1) a = a) t = t, ?_, ?_⟩
  · refine And.intro (vp_in_nI (by omega) (by decide)) ?_
    refine ⟨N, rfl, rfl, 0, A 1 (nI a).toNatClampNeg, by omega, rfl, ?_, rfl, rfl, rfl⟩
    rw [cl (by omega)]
    exact (hb a ha).1
  · rintro m pc m9 ls st w hc ⟨rfl, rfl, t, v, ht, rfl, hv, rfl, rfl, hL⟩
    have hi1 := hit (t + 1)
    refine And.intro (fun g => ?_) (fun g => ?_)
    · have := ge_n h63 (by omega) (by omega) g
      have eC : cyc b N a = t + 1 := by
        unfold cyc
        rw [show N - 1 = t by omega, hL]
        omega
      exact h _ (by rw [eC])
    · have hlt := nge_n h63 (by omega) (by omega) g
      refine And.intro (fun g2 => ?_) (fun g2 => ?_)
      · have g2 : v = nI a := g2
        rw [hv] at g2
        have g3 := nI_inj (by omega) (by omega) g2
        have eC : cyc b N a = t + 1 := by
          unfold cyc
          rw [lead_stop hL (p := fun t => ¬ itN b (t + 1) a = a) (fun q => q g3) (N - 1) (by omega)]
          omega
        exact h _ (by rw [eC])
      · have g2 : ¬ v = nI a := g2
        rw [hv] at g2
        have g3 : ¬ itN b (t + 1) a = a := fun q => g2 (by rw [q])
        refine And.intro (by rw [hv]; exact vp_in_nI (by omega) (by decide)) ?_
        refine ⟨N - (t + 1), by omega, rfl, rfl, t + 1, A 1 v.toNatClampNeg, hlt, rfl, ?_, by rw [← nI_1 (t + 1)]; rfl, rfl, lead_go hL g3⟩
        rw [hv, cl (by omega), (hb _ hi1).1]
        rfl
theorem mx_cif (l v : Int32) : (if l < v then v else l) = cif (v ≤ l) l v := by
  by_cases g : v ≤ l
  · rw [cif_t g, if_neg (fun q => (fa_of_lt q).2.1 g)]
  · rw [cif_f g, if_pos (fa_of_nle g)]
def sX0_findRounds : XS := fun as w post => ∃ (A : XA) (F : Nat → Int32) (b : Nat → Nat) (N : Nat), as = [.ref 0] ∧ w = AC A F ∧ BH A F b N ∧ ∀ A' F', sm [2] A' A → (∀ q, q ≠ 60 → q ≠ 62 → F' q = F q) → F' 60 = (rgS b N N).2.1 → F' 62 = (rgS b N N).2.2 → post none (AC A' F')
set_option maxRecDepth 10000 in
set_option maxHeartbeats 1000000 in
theorem mX0_findRounds (d : Nat) (hd : 1 ≤ d) : xCT d yX0_findRounds cX0_findRounds 4 none sX0_findRounds := by
  obtain ⟨d, rfl⟩ : ∃ e, d = e + 1 := ⟨d - 1, by omega⟩
  refine xmet (tb := tX0_findRounds) (fl := fX0) (kc := nX0) (gs := g0) (cl := xlk [(48, false, 2, xfrE sJ7_fill_53178), (96, true, 2, xrcv 0 (sX0_roundFrom)), (100, false, 2, xMax)]) (by decide) tX0_findRounds_ok fX0_ok nX0_ok g0_ok (xg_cons (k_X0_48 (xCT_frE (mJ7_fill_53178 d (by omega)))) (xg_cons (k_X0_96 (mX0_roundFrom d (by omega))) (xg_cons (k_X0_100_max (xrm_ok d)) xg_nil))) ?_
  rintro L xs as w Qp ⟨A, F, b, N, rfl, rfl, ⟨h63, hN, hb⟩, h⟩
  have hbb : ∀ c, c < N → b c < N := fun c hc => (hb c hc).2
  have hit : ∀ i, i < N → ∀ m, itN b m i < N := fun i hi => itN_lt hbb i hi
  refine ⟨Nat.le_of_ble_eq_true rfl, 400, xlk [(20, 2), (32, 4)], fun m pc ls st w => st = [] ∧ ∃ i A' F', w = AC A' F' ∧ sm [2] A' A ∧ (∀ q, q ≠ 60 → q ≠ 62 → F' q = F q) ∧ F' 60 = (rgS b N i).2.1 ∧ F' 62 = (rgS b N i).2.2 ∧ (
      (pc = 20 ∧ i ≤ N ∧ m = 10000 * (N - i) ∧ ls = [(0, .ref 0), (1, .int (nI i))] ∧ ∀ x, x < N → A' 2 x = (rgS b N i).1 x)
    ∨ (pc = 32 ∧ i < N ∧ ∃ mm f r a, a < N ∧ m = 10000 * (N - (i + 1)) + 5000 + f ∧ ls = [(0, .ref 0), (1, .int (nI i)), (2, .int (nI a)), (3, .int (nI r))] ∧ (∀ x, x < N → A' 2 x = mm x) ∧ wk b i f mm a = wk b i N (rgS b N i).1 i ∧ f + r = N)), ?_, ?_⟩
  · refine ⟨[2], [.ref 0, .int 0], [.inl (0, 3000, .inl (A 2))], rfl, rfl, rfl, 3000, A 2, 0, rfl, rfl, by decide, ?_⟩
    refine ⟨10000 * (N - 0), rfl, 0, aset A 2 (cpU (fun _ => 0) (A 2) 3000), fset (fset F 60 0) 62 0, rfl, sm_aset rfl, fun q q1 q2 => (fsN q2).trans (fsN q1), rfl, rfl, Or.inl ⟨rfl, Nat.zero_le _, rfl, rfl, fun x hx => ?_⟩⟩
    show cpU (fun _ => (0 : Int32)) (A 2) 3000 x = 0
    exact if_pos (by omega)
  · rintro m pc m9 ls st w hc ⟨rfl, i, A', F', rfl, hS, hF, h60, h62, ⟨rfl, hi, rfl, rfl, h2⟩ | ⟨rfl, hi, mm, f, r, a, ha, rfl, rfl, h2, hw, hfr⟩⟩
    · have e63 : F' 63 = nI N := (hF 63 (by omega) (by omega)).trans h63
      refine And.intro (fun g => ?_) (fun g => ?_)
      · have := ge_n e63 (by omega) (by omega) g
        have ei : i = N := by omega
        subst ei
        exact h A' F' hS hF h60 h62
      · have hlt := nge_n e63 (by omega) (by omega) g
        exact ⟨10000 * (N - (i + 1)) + 5000 + N, by omega, rfl, i, A', F', rfl, hS, hF, h60, h62, Or.inr ⟨rfl, hlt, (rgS b N i).1, N, 0, i, hlt, rfl, rfl, h2, rfl, rfl⟩⟩
    · have e63 : F' 63 = nI N := (hF 63 (by omega) (by omega)).trans h63
      have e12 : A' 2 (nI a).toNatClampNeg = mm a := by rw [cl (by omega)]; exact h2 a ha
      have i1 : vp_in (nI a) 3000 := vp_in_nI (by omega) (by decide)
      have hB : BH A' F' b N := ⟨e63, hN, fun c hc => by rw [hS 1 rfl]; exact hb c hc⟩
      /- the walk ends -/
      have fin : wk b i f mm a = (mm, a) → ∀ v, v = nI i + 1 → (¬ A' 2 (nI a).toNatClampNeg = v → rgS b N (i + 1) = (mm, (rgS b N i).2)) ∧ (A' 2 (nI a).toNatClampNeg = v → rgS b N (i + 1) = (mm, (rgS b N i).2.1 + 1, cif (nI (cyc b N a) ≤ (rgS b N i).2.2) (rgS b N i).2.2 (nI (cyc b N a)))) := by
        rintro hwe v rfl
        rw [hwe] at hw
        rw [e12, nI_1]
        refine ⟨fun g2 => ?_, fun g2 => ?_⟩
        · show cif _ _ _ = _
          rw [← hw, cif_f g2]
        · show cif _ _ _ = _
          rw [← hw, cif_t g2]
      refine And.intro (fun g => ?_) (fun g => ?_)
      · have := ge_n e63 (by omega) (by omega) g
        have ef : f = 0 := by omega
        subst ef
        obtain ⟨f1, f2⟩ := fin (rfl) _ rfl
        refine And.intro i1 ?_
        refine And.intro (fun g2 => ?_) (fun g2 => ?_)
        · have e := f1 g2
          exact ⟨10000 * (N - (i + 1)), by omega, rfl, i + 1, A', F', rfl, hS, hF, by rw [e]; exact h60, by rw [e]; exact h62, Or.inl ⟨rfl, hi, rfl, by rw [← nI_1 i]; rfl, fun x hx => by rw [e]; exact h2 x hx⟩⟩
        · have e := f2 (Classical.byContradiction g2)
          refine ⟨A', fset F' 60 (F' 60 + 1), b, N, a, rfl, rfl, ⟨e63, hN, hB.2.2⟩, ha, fun v hv => ?_⟩
          refine ⟨10000 * (N - (i + 1)), by omega, rfl, i + 1, A', fset (fset F' 60 (F' 60 + 1)) 62 (if F' 62 < v then v else F' 62), rfl, hS, fun q q1 q2 => (fsN q2).trans ((fsN q1).trans (hF q q1 q2)), ?_, ?_, Or.inl ⟨rfl, hi, rfl, by rw [← nI_1 i]; rfl, fun x hx => by rw [e]; exact h2 x hx⟩⟩
          · show F' 60 + 1 = _
            rw [e, h60]
          · show (if F' 62 < v then v else F' 62) = _
            rw [e, mx_cif, h62, hv]
      · have hlt := nge_n e63 (by omega) (by omega) g
        refine And.intro i1 ?_
        refine And.intro (fun g1 => ?_) (fun g1 => ?_)
        · have g1 : ¬ A' 2 (nI a).toNatClampNeg = 0 := g1
          rw [e12] at g1
          obtain ⟨f1, f2⟩ := fin (wk_end g1) _ rfl
          refine And.intro i1 ?_
          refine And.intro (fun g2 => ?_) (fun g2 => ?_)
          · have e := f1 g2
            exact ⟨10000 * (N - (i + 1)), by omega, rfl, i + 1, A', F', rfl, hS, hF, by rw [e]; exact h60, by rw [e]; exact h62, Or.inl ⟨rfl, hi, rfl, by rw [← nI_1 i]; rfl, fun x hx => by rw [e]; exact h2 x hx⟩⟩
          · have e := f2 (Classical.byContradiction g2)
            refine ⟨A', fset F' 60 (F' 60 + 1), b, N, a, rfl, rfl, ⟨e63, hN, hB.2.2⟩, ha, fun v hv => ?_⟩
            refine ⟨10000 * (N - (i + 1)), by omega, rfl, i + 1, A', fset (fset F' 60 (F' 60 + 1)) 62 (if F' 62 < v then v else F' 62), rfl, hS, fun q q1 q2 => (fsN q2).trans ((fsN q1).trans (hF q q1 q2)), ?_, ?_, Or.inl ⟨rfl, hi, rfl, by rw [← nI_1 i]; rfl, fun x hx => by rw [e]; exact h2 x hx⟩⟩
            · show F' 60 + 1 = _
              rw [e, h60]
            · show (if F' 62 < v then v else F' 62) = _
              rw [e, mx_cif, h62, hv]
        · have g1 : A' 2 (nI a).toNatClampNeg = 0 := Classical.byContradiction g1
          rw [e12] at g1
          obtain ⟨f', ef⟩ : ∃ f', f = f' + 1 := ⟨f - 1, by omega⟩
          have hw2 : wk b i f' (upd mm a (nI (i + 1))) (b a) = wk b i N (rgS b N i).1 i := by
            rw [← hw, ef]
            exact (cif_t g1).symm
          refine And.intro i1 (And.intro i1 ?_)
          have e10 : A' 1 (nI a).toNatClampNeg = nI (b a) := by rw [cl (by omega), hS 1 rfl]; exact (hb a ha).1
          have eu : upd (A' 2) (nI a).toNatClampNeg (nI i + 1) = upd (A' 2) a (nI (i + 1)) := by rw [cl (by omega), nI_1]
          refine ⟨10000 * (N - (i + 1)) + 5000 + f', by omega, rfl, i, aset A' 2 (upd (A' 2) a (nI (i + 1))), F', acset2 eu, sm_tr hS (sm_aset rfl), hF, h60, h62, Or.inr ⟨rfl, hi, upd mm a (nI (i + 1)), f', r + 1, b a, hbb a ha, rfl, ?_, fun x hx => upd_cg h2 x hx, hw2, by omega⟩⟩
          rw [← e10, ← nI_1 r]
          rfl
