/-! ===== the reference: the voices ===== -/
abbrev VS := XA × (Nat → Int32)
noncomputable def rn (x : Int32) (σ : VS) : VS := cif (40 ≤ σ.2 24) σ (aset σ.1 14 (upd (σ.1 14) (σ.2 24).toNatClampNeg x), fset σ.2 24 (σ.2 24 + 1))
def VI (d : Nat → Int32) (w a : Nat) (σ : VS) : Prop := bd (σ.2 24) 41 ∧ σ.2 25 = nI w ∧ w < 8 ∧ σ.1 1 = d ∧ d (8 + 8 * w + 0) = nI a ∧ a < 7
theorem VI_rn {d : Nat → Int32} {w a : Nat} {σ : VS} (h : VI d w a σ) (x : Int32) : VI d w a (rn x σ) := by
  obtain ⟨⟨j, hj, ej⟩, h2, h3, h4, h5, h6⟩ := h
  unfold rn
  by_cases g : 40 ≤ σ.2 24
  · rw [cif_t g]
    exact ⟨⟨j, hj, ej⟩, h2, h3, h4, h5, h6⟩
  · rw [cif_f g]
    rw [ej] at g
    have g : ¬ nI 40 ≤ nI j := g
    rw [fa_le, nI_toInt (by omega), nI_toInt (by omega)] at g
    refine ⟨⟨j + 1, by omega, ?_⟩, h2, h3, h4, h5, h6⟩
    show fset σ.2 24 (σ.2 24 + 1) 24 = nI (j + 1)
    rw [fset_s, ej, nI_1]
def sX10_ran : XS := fun as W post => ∃ (σ : VS) (x : Int32), as = [.ref 0, .int x] ∧ W = LM σ.1 σ.2 ∧ bd (σ.2 24) 41 ∧ post none (LM (rn x σ).1 (rn x σ).2)
set_option maxRecDepth 10000 in
set_option maxHeartbeats 1000000 in
theorem mX10_ran (d : Nat) (hd : 0 ≤ d) : xCT d yX10_ran cX10_ran 2 none sX10_ran := by
  refine xmet0 (tb := tX10_ran) (fl := fX10) (kc := nX10) (gs := g0) (cl := xlk []) 400 (by decide) tX10_ran_ok fX10_ok nX10_ok g0_ok xg_nil ?_
  rintro L xs as w Qp ⟨⟨A, F⟩, x, rfl, rfl, ⟨j, hj, ej⟩, h⟩
  have ej : F 24 = nI j := ej
  refine ⟨Nat.le_of_ble_eq_true rfl, ?_⟩
  refine And.intro (fun g => ?_) (fun g => ?_)
  · have g : 40 ≤ F 24 := g
    have e : rn x (A, F) = (A, F) := cif_t g
    rw [e] at h
    exact h
  · have g : ¬ 40 ≤ F 24 := g
    have e : rn x (A, F) = (aset A 14 (upd (A 14) (F 24).toNatClampNeg x), fset F 24 (F 24 + 1)) := cif_f g
    rw [e] at h
    rw [ej] at g
    have g : ¬ nI 40 ≤ nI j := g
    rw [fa_le, nI_toInt (by omega), nI_toInt (by omega)] at g
    refine And.intro (by show vp_in (F 24) 40; rw [ej]; exact vp_in_nI (by omega) (by decide)) ?_
    exact h
def abv : Nat → Nat
  | 4 => 2
  | 5 => 3
  | 6 => 1
  | _ => 0
def sX10_above : XS := fun as W post => ∃ (q : Nat), as = [.int (nI q)] ∧ q < 7 ∧ post (some (.int (nI (abv q)))) W
theorem q7 {q : Nat} (h : q < 7) : q = 0 ∨ q = 1 ∨ q = 2 ∨ q = 3 ∨ q = 4 ∨ q = 5 ∨ q = 6 := by omega
set_option maxRecDepth 10000 in
set_option maxHeartbeats 1000000 in
theorem mX10_above (d : Nat) (hd : 0 ≤ d) : xCT d yX10_above cX10_above 1 (some .int) sX10_above := by
  refine xmet0 (tb := tX10_above) (fl := fX10) (kc := nX10) (gs := g0) (cl := xlk []) 400 (by decide) tX10_above_ok fX10_ok nX10_ok g0_ok xg_nil ?_
  rintro L xs as w Qp ⟨q, rfl, hq, h⟩
  refine ⟨Nat.le_of_ble_eq_true rfl, ?_⟩
  refine And.intro (fun g => ?_) (fun g => ?_)
  · have g : ¬ nI q = nI 4 := g
    refine And.intro (fun g2 => ?_) (fun g2 => ?_)
    · have g2 : ¬ nI q = nI 5 := g2
      refine And.intro (fun g3 => ?_) (fun g3 => ?_)
      · have g3 : ¬ nI q = nI 6 := g3
        have e : abv q = 0 := by
          rcases q7 hq with rfl | rfl | rfl | rfl | rfl | rfl | rfl
          · rfl
          · rfl
          · rfl
          · rfl
          · exact absurd rfl g
          · exact absurd rfl g2
          · exact absurd rfl g3
        rw [e] at h
        exact h
      · have g3 : nI q = nI 6 := Classical.byContradiction g3
        have e := nI_inj (by omega) (by omega) g3
        subst e
        exact h
    · have g2 : nI q = nI 5 := Classical.byContradiction g2
      have e := nI_inj (by omega) (by omega) g2
      subst e
      exact h
  · have g : nI q = nI 4 := Classical.byContradiction g
    have e := nI_inj (by omega) (by omega) g
    subst e
    exact h
def sX10_own : XS := fun as W post => ∃ (σ : VS) (d : Nat → Int32) (w a : Nat), as = [.ref 0] ∧ W = LM σ.1 σ.2 ∧ VI d w a σ ∧ post (some (.int (nI a))) (LM σ.1 σ.2)
set_option maxRecDepth 10000 in
set_option maxHeartbeats 1000000 in
theorem mX10_own (d : Nat) (hd : 1 ≤ d) : xCT d yX10_own cX10_own 1 (some .int) sX10_own := by
  obtain ⟨d, rfl⟩ : ∃ e, d = e + 1 := ⟨d - 1, by omega⟩
  refine xmet0 (tb := tX10_own) (fl := fX10) (kc := nX10) (gs := g0) (cl := xlk [(149, true, 3, xrcv 10 (sX10_its))]) 400 (by decide) tX10_own_ok fX10_ok nX10_ok g0_ok (xg_cons (k_X10_149 (mX10_its d (by omega))) xg_nil) ?_
  rintro L xs as w Qp ⟨⟨A, F⟩, d, w, a, rfl, rfl, ⟨-, h25, hw, h1, ha, ha7⟩, h⟩
  have h25 : F 25 = nI w := h25
  have h1 : A 1 = d := h1
  refine ⟨Nat.le_of_ble_eq_true rfl, ?_⟩
  refine ⟨A, F, w, 0, by rw [← h25]; rfl, rfl, by omega, ?_⟩
  rw [h1, ha]
  exact h
noncomputable def hrs (w : Nat) : Nat → Int32 → VS → Int32 × VS
  | 0, x, σ => (x + nI w, rn 10 σ)
  | 2, x, σ => ((x + nI w) * 3, rn 10 (rn 30 σ))
  | 4, x, σ => ((x + 1 + nI w) * 3, rn 10 (rn 30 (rn 50 σ)))
  | _, x, σ => (x + nI w, rn 10 σ)
def sHe (P : Nat → Prop) : XS := fun as W post => ∃ (σ : VS) (d : Nat → Int32) (w a q : Nat) (x : Int32), as = [.ref 0, .int (nI q), .int x] ∧ W = LM σ.1 σ.2 ∧ VI d w a σ ∧ P q ∧ q < 7 ∧ post (some (.int (hrs w q x σ).1)) (LM (hrs w q x σ).2.1 (hrs w q x σ).2.2)
set_option maxRecDepth 10000 in
set_option maxHeartbeats 1000000 in
theorem pX10_hears (P P' : Nat → Prop) (hP : ∀ q, P' q → q < 7 → q = 0 ∨ P (abv q)) (d : Nat) (hd : 2 ≤ d) (hS : xCT d yX10_hears cX10_hears 3 (some .int) (sHe P)) : xCT (d + 1) yX10_hears cX10_hears 3 (some .int) (sHe P') := by
  refine xmet0 (tb := tX10_hears) (fl := fX10) (kc := nX10) (gs := g0) (cl := xlk [(266, true, 2, xrcv 10 sX10_ran), (269, false, 1, sX10_above), (272, true, 3, xrcv 10 (sHe P))]) 400 (by decide) tX10_hears_ok fX10_ok nX10_ok g0_ok (xg_cons (k_X10_266 (mX10_ran d (by omega))) (xg_cons (k_X10_269 (mX10_above d (by omega))) (xg_cons (k_X10_272 hS) xg_nil))) ?_
  rintro L xs as W Qp ⟨σ, dd, w, a, q, x, rfl, rfl, hV, hp, hq, h⟩
  have h25 : σ.2 25 = nI w := hV.2.1
  refine ⟨Nat.le_of_ble_eq_true rfl, ?_⟩
  rcases q7 hq with rfl | rfl | rfl | rfl | rfl | rfl | rfl
  · refine And.intro (And.intro (fun g => ?_) (And.intro (fun g => absurd g (by decide)) (And.intro (fun g => absurd g (by decide)) (And.intro (fun g => absurd g (by decide)) (And.intro (fun g => absurd g (by decide)) trivial))))) (fun g => absurd g (by decide))
    refine ⟨σ, 10, rfl, rfl, hV.1, ?_⟩
    have e : (rn 10 σ).2 25 = nI w := (VI_rn hV 10).2.1
    have h : Qp (some (.int (x + nI w))) (LM (rn 10 σ).1 (rn 10 σ).2) := h
    rw [← e] at h
    exact h
  · have hp1 : P (abv 1) := (hP 1 hp hq).resolve_left (by omega)
    refine And.intro (And.intro (fun g => absurd g (by decide)) (And.intro (fun g => ?_) (And.intro (fun g => absurd g (by decide)) (And.intro (fun g => absurd g (by decide)) (And.intro (fun g => absurd g (by decide)) trivial))))) (fun g => absurd g (by decide))
    refine ⟨1, rfl, hq, ?_⟩
    exact ⟨σ, dd, w, a, 0, x, rfl, rfl, hV, hp1, by omega, h⟩
  · have hp1 : P (abv 2) := (hP 2 hp hq).resolve_left (by omega)
    refine And.intro (And.intro (fun g => absurd g (by decide)) (And.intro (fun g => absurd g (by decide)) (And.intro (fun g => ?_) (And.intro (fun g => absurd g (by decide)) (And.intro (fun g => absurd g (by decide)) trivial))))) (fun g => absurd g (by decide))
    refine ⟨σ, 30, rfl, rfl, hV.1, ?_⟩
    refine ⟨2, rfl, hq, ?_⟩
    exact ⟨rn 30 σ, dd, w, a, 0, x, rfl, rfl, VI_rn hV 30, hp1, by omega, h⟩
  · have hp1 : P (abv 3) := (hP 3 hp hq).resolve_left (by omega)
    refine And.intro (And.intro (fun g => absurd g (by decide)) (And.intro (fun g => absurd g (by decide)) (And.intro (fun g => absurd g (by decide)) (And.intro (fun g => ?_) (And.intro (fun g => absurd g (by decide)) trivial))))) (fun g => absurd g (by decide))
    refine ⟨3, rfl, hq, ?_⟩
    exact ⟨σ, dd, w, a, 0, x, rfl, rfl, hV, hp1, by omega, h⟩
  · have hp1 : P (abv 4) := (hP 4 hp hq).resolve_left (by omega)
    refine And.intro (And.intro (fun g => absurd g (by decide)) (And.intro (fun g => absurd g (by decide)) (And.intro (fun g => absurd g (by decide)) (And.intro (fun g => absurd g (by decide)) (And.intro (fun g => ?_) trivial))))) (fun g => absurd g (by decide))
    refine ⟨σ, 50, rfl, rfl, hV.1, ?_⟩
    refine ⟨4, rfl, hq, ?_⟩
    exact ⟨rn 50 σ, dd, w, a, 2, x + 1, rfl, rfl, VI_rn hV 50, hp1, by omega, h⟩
  · have hp1 : P (abv 5) := (hP 5 hp hq).resolve_left (by omega)
    refine And.intro (And.intro (fun g => absurd g (by decide)) (And.intro (fun g => absurd g (by decide)) (And.intro (fun g => absurd g (by decide)) (And.intro (fun g => absurd g (by decide)) (And.intro (fun g => absurd g (by decide)) trivial))))) (fun g => ?_)
    refine ⟨5, rfl, hq, ?_⟩
    exact ⟨σ, dd, w, a, abv 5, x, rfl, rfl, hV, hp1, by decide, h⟩
  · have hp1 : P (abv 6) := (hP 6 hp hq).resolve_left (by omega)
    refine And.intro (And.intro (fun g => absurd g (by decide)) (And.intro (fun g => absurd g (by decide)) (And.intro (fun g => absurd g (by decide)) (And.intro (fun g => absurd g (by decide)) (And.intro (fun g => absurd g (by decide)) trivial))))) (fun g => ?_)
    refine ⟨6, rfl, hq, ?_⟩
    exact ⟨σ, dd, w, a, abv 6, x, rfl, rfl, hV, hp1, by decide, h⟩
theorem xCT_f {d : Nat} {y : MethodName} {b : ByteArray} {nL : Nat} {rt : Option FieldType} {S : XS} (h : ∀ as w post, ¬ S as w post) : xCT d y b nL rt S := fun _ _ _ _ _ _ as w Qp hq => (h as w Qp hq).elim
def sX10_hears : XS := sHe (fun _ => True)
theorem mX10_hears (d : Nat) (hd : 6 ≤ d) : xCT d yX10_hears cX10_hears 3 (some .int) sX10_hears := by
  obtain ⟨d, rfl⟩ : ∃ e, d = e + 1 + 1 + 1 := ⟨d - 3, by omega⟩
  refine pX10_hears (fun q => q ≤ 3) (fun _ => True) (fun q _ hq => ?_) _ (by omega) (pX10_hears (fun q => q = 0) (fun q => q ≤ 3) (fun q h3 hq => ?_) _ (by omega) (pX10_hears (fun _ => False) (fun q => q = 0) (fun q h0 _ => Or.inl h0) _ (by omega) (xCT_f ?_)))
  · right
    rcases q7 hq with rfl | rfl | rfl | rfl | rfl | rfl | rfl <;> decide
  · right
    rcases q7 hq with rfl | rfl | rfl | rfl | rfl | rfl | rfl
    · rfl
    · rfl
    · rfl
    · rfl
    · omega
    · omega
    · omega
  · rintro as w post ⟨_, _, _, _, _, _, _, _, _, h, _⟩
    exact h
noncomputable def rss (m : Int32) : Nat → Int32 → VS → Int32 × VS
  | 3, x, σ => (-(x - m), rn 12 (rn 40 σ))
  | 5, x, σ => (-(x - m), rn 12 (rn 40 σ))
  | _, x, σ => (x - m, rn 12 σ)
def sRe (P : Nat → Prop) : XS := fun as W post => ∃ (σ : VS) (d : Nat → Int32) (w a q : Nat) (x : Int32), as = [.ref 0, .int (nI q), .int x] ∧ W = LM σ.1 σ.2 ∧ VI d w a σ ∧ P q ∧ q < 7 ∧ post (some (.int (rss (d (8 + 8 * w + 1)) q x σ).1)) (LM (rss (d (8 + 8 * w + 1)) q x σ).2.1 (rss (d (8 + 8 * w + 1)) q x σ).2.2)
set_option maxRecDepth 10000 in
set_option maxHeartbeats 1000000 in
theorem pX10_rests (P P' : Nat → Prop) (hP : ∀ q, P' q → q < 7 → q = 0 ∨ P (abv q)) (d : Nat) (hd : 2 ≤ d) (hS : xCT d yX10_rests cX10_rests 3 (some .int) (sRe P)) : xCT (d + 1) yX10_rests cX10_rests 3 (some .int) (sRe P') := by
  refine xmet0 (tb := tX10_rests) (fl := fX10) (kc := nX10) (gs := g0) (cl := xlk [(266, true, 2, xrcv 10 sX10_ran), (269, false, 1, sX10_above), (281, true, 3, xrcv 10 (sRe P)), (149, true, 3, xrcv 10 sX10_its)]) 400 (by decide) tX10_rests_ok fX10_ok nX10_ok g0_ok (xg_cons (k_X10_266 (mX10_ran d (by omega))) (xg_cons (k_X10_269 (mX10_above d (by omega))) (xg_cons (k_X10_281 hS) (xg_cons (k_X10_149 (mX10_its d (by omega))) xg_nil)))) ?_
  rintro L xs as W Qp ⟨σ, dd, w, a, q, x, rfl, rfl, hV, hp, hq, h⟩
  refine ⟨Nat.le_of_ble_eq_true rfl, ?_⟩
  rcases q7 hq with rfl | rfl | rfl | rfl | rfl | rfl | rfl
  · refine And.intro (fun g => ?_) (fun g => absurd rfl g)
    refine ⟨σ, 12, rfl, rfl, hV.1, ?_⟩
    obtain ⟨-, e25, hw, e1, -, -⟩ := VI_rn hV 12
    refine ⟨(rn 12 σ).1, (rn 12 σ).2, w, 1, by rw [← e25]; rfl, rfl, by omega, ?_⟩
    have h : Qp (some (.int (x - dd (8 + 8 * w + 1)))) (LM (rn 12 σ).1 (rn 12 σ).2) := h
    rw [← e1] at h
    exact h
  · have hp1 : P (abv 1) := (hP 1 hp hq).resolve_left (by omega)
    refine And.intro (fun g => absurd g (by decide)) (fun g => And.intro (fun g => absurd g (by decide)) (fun g => ?_))
    refine ⟨1, rfl, hq, ?_⟩
    exact ⟨σ, dd, w, a, abv 1, x, rfl, rfl, hV, hp1, by decide, h⟩
  · have hp1 : P (abv 2) := (hP 2 hp hq).resolve_left (by omega)
    refine And.intro (fun g => absurd g (by decide)) (fun g => And.intro (fun g => absurd g (by decide)) (fun g => ?_))
    refine ⟨2, rfl, hq, ?_⟩
    exact ⟨σ, dd, w, a, abv 2, x, rfl, rfl, hV, hp1, by decide, h⟩
  · have hp1 : P (abv 3) := (hP 3 hp hq).resolve_left (by omega)
    refine And.intro (fun g => absurd g (by decide)) (fun g => And.intro (fun g => ?_) (fun g => absurd rfl g))
    refine ⟨σ, 40, rfl, rfl, hV.1, ?_⟩
    refine ⟨3, rfl, hq, ?_⟩
    exact ⟨rn 40 σ, dd, w, a, 0, x, rfl, rfl, VI_rn hV 40, hp1, by omega, h⟩
  · have hp1 : P (abv 4) := (hP 4 hp hq).resolve_left (by omega)
    refine And.intro (fun g => absurd g (by decide)) (fun g => And.intro (fun g => absurd g (by decide)) (fun g => ?_))
    refine ⟨4, rfl, hq, ?_⟩
    exact ⟨σ, dd, w, a, abv 4, x, rfl, rfl, hV, hp1, by decide, h⟩
  · have hp1 : P (abv 5) := (hP 5 hp hq).resolve_left (by omega)
    refine And.intro (fun g => absurd g (by decide)) (fun g => And.intro (fun g => absurd g (by decide)) (fun g => ?_))
    refine ⟨5, rfl, hq, ?_⟩
    exact ⟨σ, dd, w, a, abv 5, x, rfl, rfl, hV, hp1, by decide, h⟩
  · have hp1 : P (abv 6) := (hP 6 hp hq).resolve_left (by omega)
    refine And.intro (fun g => absurd g (by decide)) (fun g => And.intro (fun g => absurd g (by decide)) (fun g => ?_))
    refine ⟨6, rfl, hq, ?_⟩
    exact ⟨σ, dd, w, a, abv 6, x, rfl, rfl, hV, hp1, by decide, h⟩
def sX10_rests : XS := sRe (fun _ => True)
theorem mX10_rests (d : Nat) (hd : 6 ≤ d) : xCT d yX10_rests cX10_rests 3 (some .int) sX10_rests := by
  obtain ⟨d, rfl⟩ : ∃ e, d = e + 1 + 1 + 1 := ⟨d - 3, by omega⟩
  refine pX10_rests (fun q => q ≤ 3) (fun _ => True) (fun q _ hq => ?_) _ (by omega) (pX10_rests (fun q => q = 0) (fun q => q ≤ 3) (fun q h3 hq => ?_) _ (by omega) (pX10_rests (fun _ => False) (fun q => q = 0) (fun q h0 _ => Or.inl h0) _ (by omega) (xCT_f ?_)))
  · right
    rcases q7 hq with rfl | rfl | rfl | rfl | rfl | rfl | rfl <;> decide
  · right
    rcases q7 hq with rfl | rfl | rfl | rfl | rfl | rfl | rfl
    · rfl
    · rfl
    · rfl
    · rfl
    · omega
    · omega
    · omega
  · rintro as w post ⟨_, _, _, _, _, _, _, _, _, h, _⟩
    exact h
