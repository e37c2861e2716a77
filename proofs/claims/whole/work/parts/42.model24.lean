/-! ===== the reference: voices, tells, voice ===== -/
noncomputable def vc0 (w a : Nat) (x : Int32) (σ : VS) : Int32 × VS := ((hrs w a x (rn 11 σ)).1 * 2, (hrs w a x (rn 11 σ)).2)
noncomputable def vc1 (w a : Nat) (m x : Int32) (σ : VS) : Int32 × VS := ((vc0 w a x (rn 20 σ)).1 - (rss m a 1 (vc0 w a x (rn 20 σ)).2).1, (rss m a 1 (vc0 w a x (rn 20 σ)).2).2)
noncomputable def vc6 (w a : Nat) (m x : Int32) (σ : VS) : Int32 × VS := ((vc1 w a m x (rn 70 σ)).1 ^^^ nI w, (vc1 w a m x (rn 70 σ)).2)
noncomputable def vcs (w a : Nat) (m : Int32) : Nat → Int32 → VS → Int32 × VS
  | 1, x, σ => vc1 w a m x σ
  | 6, x, σ => vc6 w a m x σ
  | _, x, σ => vc0 w a x σ
theorem VI_hrs {d : Nat → Int32} {w a : Nat} {σ : VS} (h : VI d w a σ) (q : Nat) (x : Int32) : VI d w a (hrs w q x σ).2 := by
  unfold hrs
  split
  · exact VI_rn h 10
  · exact VI_rn (VI_rn h 30) 10
  · exact VI_rn (VI_rn (VI_rn h 50) 30) 10
  · exact VI_rn h 10
theorem VI_rss {d : Nat → Int32} {w a : Nat} {σ : VS} (h : VI d w a σ) (m : Int32) (q : Nat) (x : Int32) : VI d w a (rss m q x σ).2 := by
  unfold rss
  split
  · exact VI_rn (VI_rn h 40) 12
  · exact VI_rn (VI_rn h 40) 12
  · exact VI_rn h 12
theorem VI_vc0 {d : Nat → Int32} {w a : Nat} {σ : VS} (h : VI d w a σ) (x : Int32) : VI d w a (vc0 w a x σ).2 := VI_hrs (VI_rn h 11) a x
theorem VI_vc1 {d : Nat → Int32} {w a : Nat} {σ : VS} (h : VI d w a σ) (m x : Int32) : VI d w a (vc1 w a m x σ).2 := VI_rss (VI_vc0 (VI_rn h 20) x) m a 1
theorem VI_vc6 {d : Nat → Int32} {w a : Nat} {σ : VS} (h : VI d w a σ) (m x : Int32) : VI d w a (vc6 w a m x σ).2 := VI_vc1 (VI_rn h 70) m x
theorem VI_vcs {d : Nat → Int32} {w a : Nat} {σ : VS} (h : VI d w a σ) (m : Int32) (q : Nat) (x : Int32) : VI d w a (vcs w a m q x σ).2 := by
  unfold vcs
  split
  · exact VI_vc1 h m x
  · exact VI_vc6 h m x
  · exact VI_vc0 h x
def sVo (P : Nat → Prop) : XS := fun as W post => ∃ (σ : VS) (d : Nat → Int32) (w a q : Nat) (x : Int32), as = [.ref 0, .int (nI q), .int x] ∧ W = LM σ.1 σ.2 ∧ VI d w a σ ∧ P q ∧ q < 7 ∧ post (some (.int (vcs w a (d (8 + 8 * w + 1)) q x σ).1)) (LM (vcs w a (d (8 + 8 * w + 1)) q x σ).2.1 (vcs w a (d (8 + 8 * w + 1)) q x σ).2.2)
set_option maxRecDepth 10000 in
set_option maxHeartbeats 1000000 in
theorem pX10_voices (P P' : Nat → Prop) (hP : ∀ q, P' q → q < 7 → q = 0 ∨ P (abv q)) (d : Nat) (hd : 6 ≤ d) (hS : xCT d yX10_voices cX10_voices 4 (some .int) (sVo P)) : xCT (d + 1) yX10_voices cX10_voices 4 (some .int) (sVo P') := by
  refine xmet0 (tb := tX10_voices) (fl := fX10) (kc := nX10) (gs := g0) (cl := xlk [(266, true, 2, xrcv 10 sX10_ran), (269, false, 1, sX10_above), (278, true, 3, xrcv 10 (sVo P)), (275, true, 1, xrcv 10 sX10_own), (272, true, 3, xrcv 10 sX10_hears), (281, true, 3, xrcv 10 sX10_rests)]) 400 (by decide) tX10_voices_ok fX10_ok nX10_ok g0_ok (xg_cons (k_X10_266 (mX10_ran d (by omega))) (xg_cons (k_X10_269 (mX10_above d (by omega))) (xg_cons (k_X10_278 hS) (xg_cons (k_X10_275 (mX10_own d (by omega))) (xg_cons (k_X10_272 (mX10_hears d (by omega))) (xg_cons (k_X10_281 (mX10_rests d (by omega))) xg_nil)))))) ?_
  rintro L xs as W Qp ⟨σ, dd, w, a, q, x, rfl, rfl, hV, hp, hq, h⟩
  have ha7 : a < 7 := hV.2.2.2.2.2
  refine ⟨Nat.le_of_ble_eq_true rfl, ?_⟩
  rcases q7 hq with rfl | rfl | rfl | rfl | rfl | rfl | rfl
  · refine And.intro (fun g => ?_) (fun g => absurd rfl g)
    refine ⟨σ, 11, rfl, rfl, hV.1, ?_⟩
    refine ⟨rn 11 σ, dd, w, a, rfl, rfl, VI_rn hV 11, ?_⟩
    exact ⟨rn 11 σ, dd, w, a, a, x, rfl, rfl, VI_rn hV 11, trivial, ha7, h⟩
  · have hp1 : P (abv 1) := (hP 1 hp hq).resolve_left (by omega)
    refine And.intro (fun g => absurd g (by decide)) (fun g => And.intro (fun g => ?_) (fun g => absurd rfl g))
    refine ⟨σ, 20, rfl, rfl, hV.1, ?_⟩
    refine ⟨1, rfl, hq, ?_⟩
    refine ⟨rn 20 σ, dd, w, a, 0, x, rfl, rfl, VI_rn hV 20, hp1, by omega, ?_⟩
    have hV2 : VI dd w a (vc0 w a x (rn 20 σ)).2 := VI_vc0 (VI_rn hV 20) x
    refine ⟨(vc0 w a x (rn 20 σ)).2, dd, w, a, rfl, rfl, hV2, ?_⟩
    exact ⟨(vc0 w a x (rn 20 σ)).2, dd, w, a, a, 1, rfl, rfl, hV2, trivial, ha7, h⟩
  · have hp1 : P (abv 2) := (hP 2 hp hq).resolve_left (by omega)
    refine And.intro (fun g => absurd g (by decide)) (fun g => And.intro (fun g => absurd g (by decide)) (fun g => And.intro (fun g => absurd g (by decide)) (fun g => ?_)))
    refine ⟨2, rfl, hq, ?_⟩
    exact ⟨σ, dd, w, a, abv 2, x, rfl, rfl, hV, hp1, by decide, h⟩
  · have hp1 : P (abv 3) := (hP 3 hp hq).resolve_left (by omega)
    refine And.intro (fun g => absurd g (by decide)) (fun g => And.intro (fun g => absurd g (by decide)) (fun g => And.intro (fun g => absurd g (by decide)) (fun g => ?_)))
    refine ⟨3, rfl, hq, ?_⟩
    exact ⟨σ, dd, w, a, abv 3, x, rfl, rfl, hV, hp1, by decide, h⟩
  · have hp1 : P (abv 4) := (hP 4 hp hq).resolve_left (by omega)
    refine And.intro (fun g => absurd g (by decide)) (fun g => And.intro (fun g => absurd g (by decide)) (fun g => And.intro (fun g => absurd g (by decide)) (fun g => ?_)))
    refine ⟨4, rfl, hq, ?_⟩
    exact ⟨σ, dd, w, a, abv 4, x, rfl, rfl, hV, hp1, by decide, h⟩
  · have hp1 : P (abv 5) := (hP 5 hp hq).resolve_left (by omega)
    refine And.intro (fun g => absurd g (by decide)) (fun g => And.intro (fun g => absurd g (by decide)) (fun g => And.intro (fun g => absurd g (by decide)) (fun g => ?_)))
    refine ⟨5, rfl, hq, ?_⟩
    exact ⟨σ, dd, w, a, abv 5, x, rfl, rfl, hV, hp1, by decide, h⟩
  · have hp1 : P (abv 6) := (hP 6 hp hq).resolve_left (by omega)
    refine And.intro (fun g => absurd g (by decide)) (fun g => And.intro (fun g => absurd g (by decide)) (fun g => And.intro (fun g => ?_) (fun g => absurd rfl g)))
    refine ⟨σ, 70, rfl, rfl, hV.1, ?_⟩
    refine ⟨6, rfl, hq, ?_⟩
    refine ⟨rn 70 σ, dd, w, a, 1, x, rfl, rfl, VI_rn hV 70, hp1, by omega, ?_⟩
    have e25 : (vc1 w a (dd (8 + 8 * w + 1)) x (rn 70 σ)).2.2 25 = nI w := (VI_vc1 (VI_rn hV 70) (dd (8 + 8 * w + 1)) x).2.1
    have h : Qp (some (.int ((vc1 w a (dd (8 + 8 * w + 1)) x (rn 70 σ)).1 ^^^ nI w))) (LM (vc1 w a (dd (8 + 8 * w + 1)) x (rn 70 σ)).2.1 (vc1 w a (dd (8 + 8 * w + 1)) x (rn 70 σ)).2.2) := h
    rw [← e25] at h
    exact h
theorem lv2 {q : Nat} (hq : q < 7) : abv q ≤ 3 := by
  rcases q7 hq with rfl | rfl | rfl | rfl | rfl | rfl | rfl <;> decide
theorem lv1 {q : Nat} (h3 : q ≤ 3) : abv q = 0 := by
  rcases q7 (show q < 7 by omega) with rfl | rfl | rfl | rfl | rfl | rfl | rfl
  · rfl
  · rfl
  · rfl
  · rfl
  · omega
  · omega
  · omega
def sX10_voices : XS := sVo (fun _ => True)
theorem mX10_voices (d : Nat) (hd : 10 ≤ d) : xCT d yX10_voices cX10_voices 4 (some .int) sX10_voices := by
  obtain ⟨d, rfl⟩ : ∃ e, d = e + 1 + 1 + 1 := ⟨d - 3, by omega⟩
  refine pX10_voices (fun q => q ≤ 3) (fun _ => True) (fun q _ hq => Or.inr (lv2 hq)) _ (by omega) (pX10_voices (fun q => q = 0) (fun q => q ≤ 3) (fun q h3 hq => Or.inr (lv1 h3)) _ (by omega) (pX10_voices (fun _ => False) (fun q => q = 0) (fun q h0 _ => Or.inl h0) _ (by omega) (xCT_f ?_)))
  rintro as w post ⟨_, _, _, _, _, _, _, _, _, h, _⟩
  exact h
noncomputable def tl0 (w a : Nat) (m x : Int32) (σ : VS) : Int32 × VS := ((vcs w a m a x (rn 13 σ)).1 ^^^ (rss m a x (vcs w a m a x (rn 13 σ)).2).1, (rss m a x (vcs w a m a x (rn 13 σ)).2).2)
noncomputable def tl5 (w a : Nat) (m x : Int32) (σ : VS) : Int32 × VS := ((tl0 w a m x (rn 60 σ)).1 - (hrs w a 2 (tl0 w a m x (rn 60 σ)).2).1, (hrs w a 2 (tl0 w a m x (rn 60 σ)).2).2)
noncomputable def tl6 (w a : Nat) (m x : Int32) (σ : VS) : Int32 × VS := ((vcs w a m a x (rn 71 σ)).1 - (tl0 w a m x (vcs w a m a x (rn 71 σ)).2).1, (tl0 w a m x (vcs w a m a x (rn 71 σ)).2).2)
noncomputable def tls (w a : Nat) (m : Int32) : Nat → Int32 → VS → Int32 × VS
  | 5, x, σ => tl5 w a m x σ
  | 6, x, σ => tl6 w a m x σ
  | _, x, σ => tl0 w a m x σ
theorem VI_tl0 {d : Nat → Int32} {w a : Nat} {σ : VS} (h : VI d w a σ) (m x : Int32) : VI d w a (tl0 w a m x σ).2 := VI_rss (VI_vcs (VI_rn h 13) m a x) m a x
def sTe (P : Nat → Prop) : XS := fun as W post => ∃ (σ : VS) (d : Nat → Int32) (w a q : Nat) (x : Int32), as = [.ref 0, .int (nI q), .int x] ∧ W = LM σ.1 σ.2 ∧ VI d w a σ ∧ P q ∧ q < 7 ∧ post (some (.int (tls w a (d (8 + 8 * w + 1)) q x σ).1)) (LM (tls w a (d (8 + 8 * w + 1)) q x σ).2.1 (tls w a (d (8 + 8 * w + 1)) q x σ).2.2)
set_option maxRecDepth 10000 in
set_option maxHeartbeats 1000000 in
theorem pX10_tells (P P' : Nat → Prop) (hP : ∀ q, P' q → q < 7 → q = 0 ∨ P (abv q)) (d : Nat) (hd : 10 ≤ d) (hS : xCT d yX10_tells cX10_tells 4 (some .int) (sTe P)) : xCT (d + 1) yX10_tells cX10_tells 4 (some .int) (sTe P') := by
  refine xmet0 (tb := tX10_tells) (fl := fX10) (kc := nX10) (gs := g0) (cl := xlk [(266, true, 2, xrcv 10 sX10_ran), (269, false, 1, sX10_above), (284, true, 3, xrcv 10 (sTe P)), (275, true, 1, xrcv 10 sX10_own), (272, true, 3, xrcv 10 sX10_hears), (281, true, 3, xrcv 10 sX10_rests), (278, true, 3, xrcv 10 sX10_voices)]) 400 (by decide) tX10_tells_ok fX10_ok nX10_ok g0_ok (xg_cons (k_X10_266 (mX10_ran d (by omega))) (xg_cons (k_X10_269 (mX10_above d (by omega))) (xg_cons (k_X10_284 hS) (xg_cons (k_X10_275 (mX10_own d (by omega))) (xg_cons (k_X10_272 (mX10_hears d (by omega))) (xg_cons (k_X10_281 (mX10_rests d (by omega))) (xg_cons (k_X10_278 (mX10_voices d (by omega))) xg_nil))))))) ?_
  rintro L xs as W Qp ⟨σ, dd, w, a, q, x, rfl, rfl, hV, hp, hq, h⟩
  have ha7 : a < 7 := hV.2.2.2.2.2
  refine ⟨Nat.le_of_ble_eq_true rfl, ?_⟩
  rcases q7 hq with rfl | rfl | rfl | rfl | rfl | rfl | rfl
  · refine And.intro (fun g => ?_) (fun g => absurd rfl g)
    refine ⟨σ, 13, rfl, rfl, hV.1, ?_⟩
    refine ⟨rn 13 σ, dd, w, a, rfl, rfl, VI_rn hV 13, ?_⟩
    refine ⟨rn 13 σ, dd, w, a, a, x, rfl, rfl, VI_rn hV 13, trivial, ha7, ?_⟩
    have hV2 := VI_vcs (VI_rn hV 13) (dd (8 + 8 * w + 1)) a x
    refine ⟨(vcs w a (dd (8 + 8 * w + 1)) a x (rn 13 σ)).2, dd, w, a, rfl, rfl, hV2, ?_⟩
    exact ⟨(vcs w a (dd (8 + 8 * w + 1)) a x (rn 13 σ)).2, dd, w, a, a, x, rfl, rfl, hV2, trivial, ha7, h⟩
  · have hp1 : P (abv 1) := (hP 1 hp hq).resolve_left (by omega)
    refine And.intro (fun g => absurd g (by decide)) (fun g => And.intro (fun g => absurd g (by decide)) (fun g => And.intro (fun g => absurd g (by decide)) (fun g => ?_)))
    refine ⟨1, rfl, hq, ?_⟩
    exact ⟨σ, dd, w, a, abv 1, x, rfl, rfl, hV, hp1, by decide, h⟩
  · have hp1 : P (abv 2) := (hP 2 hp hq).resolve_left (by omega)
    refine And.intro (fun g => absurd g (by decide)) (fun g => And.intro (fun g => absurd g (by decide)) (fun g => And.intro (fun g => absurd g (by decide)) (fun g => ?_)))
    refine ⟨2, rfl, hq, ?_⟩
    exact ⟨σ, dd, w, a, abv 2, x, rfl, rfl, hV, hp1, by decide, h⟩
  · have hp1 : P (abv 3) := (hP 3 hp hq).resolve_left (by omega)
    refine And.intro (fun g => absurd g (by decide)) (fun g => And.intro (fun g => absurd g (by decide)) (fun g => And.intro (fun g => absurd g (by decide)) (fun g => ?_)))
    refine ⟨3, rfl, hq, ?_⟩
    exact ⟨σ, dd, w, a, abv 3, x, rfl, rfl, hV, hp1, by decide, h⟩
  · have hp1 : P (abv 4) := (hP 4 hp hq).resolve_left (by omega)
    refine And.intro (fun g => absurd g (by decide)) (fun g => And.intro (fun g => absurd g (by decide)) (fun g => And.intro (fun g => absurd g (by decide)) (fun g => ?_)))
    refine ⟨4, rfl, hq, ?_⟩
    exact ⟨σ, dd, w, a, abv 4, x, rfl, rfl, hV, hp1, by decide, h⟩
  · have hp1 : P (abv 5) := (hP 5 hp hq).resolve_left (by omega)
    refine And.intro (fun g => absurd g (by decide)) (fun g => And.intro (fun g => ?_) (fun g => absurd rfl g))
    refine ⟨σ, 60, rfl, rfl, hV.1, ?_⟩
    refine ⟨5, rfl, hq, ?_⟩
    refine ⟨rn 60 σ, dd, w, a, 3, x, rfl, rfl, VI_rn hV 60, hp1, by omega, ?_⟩
    have hV2 := VI_tl0 (VI_rn hV 60) (dd (8 + 8 * w + 1)) x
    refine ⟨(tl0 w a (dd (8 + 8 * w + 1)) x (rn 60 σ)).2, dd, w, a, rfl, rfl, hV2, ?_⟩
    exact ⟨(tl0 w a (dd (8 + 8 * w + 1)) x (rn 60 σ)).2, dd, w, a, a, 2, rfl, rfl, hV2, trivial, ha7, h⟩
  · have hp1 : P (abv 6) := (hP 6 hp hq).resolve_left (by omega)
    refine And.intro (fun g => absurd g (by decide)) (fun g => And.intro (fun g => absurd g (by decide)) (fun g => And.intro (fun g => ?_) (fun g => absurd rfl g)))
    refine ⟨σ, 71, rfl, rfl, hV.1, ?_⟩
    refine ⟨rn 71 σ, dd, w, a, rfl, rfl, VI_rn hV 71, ?_⟩
    refine ⟨rn 71 σ, dd, w, a, a, x, rfl, rfl, VI_rn hV 71, trivial, ha7, ?_⟩
    have hV2 := VI_vcs (VI_rn hV 71) (dd (8 + 8 * w + 1)) a x
    refine ⟨6, rfl, hq, ?_⟩
    exact ⟨(vcs w a (dd (8 + 8 * w + 1)) a x (rn 71 σ)).2, dd, w, a, 1, x, rfl, rfl, hV2, hp1, by omega, h⟩
def sX10_tells : XS := sTe (fun _ => True)
theorem mX10_tells (d : Nat) (hd : 14 ≤ d) : xCT d yX10_tells cX10_tells 4 (some .int) sX10_tells := by
  obtain ⟨d, rfl⟩ : ∃ e, d = e + 1 + 1 + 1 := ⟨d - 3, by omega⟩
  refine pX10_tells (fun q => q ≤ 3) (fun _ => True) (fun q _ hq => Or.inr (lv2 hq)) _ (by omega) (pX10_tells (fun q => q = 0) (fun q => q ≤ 3) (fun q h3 hq => Or.inr (lv1 h3)) _ (by omega) (pX10_tells (fun _ => False) (fun q => q = 0) (fun q h0 _ => Or.inl h0) _ (by omega) (xCT_f ?_)))
  rintro as w post ⟨_, _, _, _, _, _, _, _, _, h, _⟩
  exact h
/-- a voice of singer w, by what -/
noncomputable def vox (d : Nat → Int32) (w : Nat) (what x : Int32) (σ : VS) : Int32 × VS := cif (what = 0) (hrs w (d (8 + 8 * w + 0)).toNatClampNeg x σ) (cif (what = 1) (vcs w (d (8 + 8 * w + 0)).toNatClampNeg (d (8 + 8 * w + 1)) (d (8 + 8 * w + 0)).toNatClampNeg x σ) (cif (what = 2) (rss (d (8 + 8 * w + 1)) (d (8 + 8 * w + 0)).toNatClampNeg x σ) (tls w (d (8 + 8 * w + 0)).toNatClampNeg (d (8 + 8 * w + 1)) (d (8 + 8 * w + 0)).toNatClampNeg x σ)))
noncomputable def qvoice (s what x : Int32) (A : XA) (F : Nat → Int32) : XR := cif (isS (A 1) s ∧ (0 ≤ what ∧ what ≤ 3)) (vox (A 1) s.toNatClampNeg what x (A, fset (fset F 24 0) 25 s)) (eR 1 A F)
def sX10_voice : XS := fun as w post => ∃ (A : XA) (F : Nat → Int32) (s what x : Int32) (n k : Nat), as = [.ref 0, .int s, .int what, .int x] ∧ w = LM A F ∧ DI (A 1) n k ∧ sQ (qvoice s what x A F) post
set_option maxRecDepth 10000 in
set_option maxHeartbeats 1000000 in
theorem mX10_voice (d : Nat) (hd : 15 ≤ d) : xCT d yX10_voice cX10_voice 5 (some .int) sX10_voice := by
  obtain ⟨d, rfl⟩ : ∃ e, d = e + 1 := ⟨d - 1, by omega⟩
  refine xmet0 (tb := tX10_voice) (fl := fX10) (kc := nX10) (gs := g0) (cl := xlk [(163, true, 2, xrcv 10 (sX10_isSinger)), (65, false, 3, sX10_in), (128, true, 2, xrcv 10 (sX10_finds)), (275, true, 1, xrcv 10 (sX10_own)), (272, true, 3, xrcv 10 (sX10_hears)), (278, true, 3, xrcv 10 (sX10_voices)), (281, true, 3, xrcv 10 (sX10_rests)), (284, true, 3, xrcv 10 (sX10_tells))]) 400 (by decide) tX10_voice_ok fX10_ok nX10_ok g0_ok (xg_cons (k_X10_163 (mX10_isSinger d (by omega))) (xg_cons (k_X10_65 (mX10_in d (by omega))) (xg_cons (k_X10_128 (mX10_finds d (by omega))) (xg_cons (k_X10_275 (mX10_own d (by omega))) (xg_cons (k_X10_272 (mX10_hears d (by omega))) (xg_cons (k_X10_278 (mX10_voices d (by omega))) (xg_cons (k_X10_281 (mX10_rests d (by omega))) (xg_cons (k_X10_284 (mX10_tells d (by omega))) xg_nil)))))))) ?_
  rintro L xs as w Qp ⟨A, F, s, what, x, n, k, rfl, rfl, hI, h⟩
  obtain ⟨hn, hn2, hn12, hk, hk8, hsg, -⟩ := id hI
  refine ⟨Nat.le_of_ble_eq_true rfl, ?_⟩
  refine ⟨A, F, s, k, rfl, rfl, hk, hk8, fun i hi es => ?_, fun g => ?_⟩
  · subst es
    refine br_f xc_eq1 ?_
    refine ⟨what, 0, 3, rfl, fun g1 g2 => ?_, fun g => ?_⟩
    · refine br_t xc_ne1 ?_
      obtain ⟨⟨a, ha, ea⟩, -⟩ := hsg i hi
      have ea : A 1 (8 + 8 * i + 0) = nI a := ea
      have ecl : (nI i).toNatClampNeg = i := cl (by omega)
      have hV : VI (A 1) i a (A, fset (fset F 24 0) 25 (nI i)) := ⟨⟨0, by omega, rfl⟩, rfl, by omega, rfl, ea, ha⟩
      unfold qvoice vox at h
      rw [cif_t ⟨isS_i hk hk8 hi, ⟨g1, g2⟩⟩, ecl, ea, cl (by omega)] at h
      refine ⟨(A, fset (fset F 24 0) 25 (nI i)), A 1, i, a, rfl, rfl, hV, ?_⟩
      have fin : ∀ (r : Int32 × VS), sQ r Qp → Qp (some (.int r.1)) (LM r.2.1 r.2.2) := fun r hr => hr _ _ (per.r _ _)
      refine And.intro (fun g => ?_) (fun g => ?_)
      · have g : ¬ what = 0 := g
        rw [cif_f g] at h
        refine And.intro (fun g3 => ?_) (fun g3 => ?_)
        · have g3 : ¬ what = 1 := g3
          rw [cif_f g3] at h
          refine And.intro (fun g4 => ?_) (fun g4 => ?_)
          · have g4 : ¬ what = 2 := g4
            rw [cif_f g4] at h
            exact ⟨(A, fset (fset F 24 0) 25 (nI i)), A 1, i, a, a, x, rfl, rfl, hV, trivial, ha, fin _ h⟩
          · have g4 : what = 2 := Classical.byContradiction g4
            rw [cif_t g4] at h
            exact ⟨(A, fset (fset F 24 0) 25 (nI i)), A 1, i, a, a, x, rfl, rfl, hV, trivial, ha, fin _ h⟩
        · have g3 : what = 1 := Classical.byContradiction g3
          rw [cif_t g3] at h
          exact ⟨(A, fset (fset F 24 0) 25 (nI i)), A 1, i, a, a, x, rfl, rfl, hV, trivial, ha, fin _ h⟩
      · have g : what = 0 := Classical.byContradiction g
        rw [cif_t g] at h
        exact ⟨(A, fset (fset F 24 0) 25 (nI i)), A 1, i, a, a, x, rfl, rfl, hV, trivial, ha, fin _ h⟩
    · refine br_f xc_ne0 ?_
      refine ⟨A, F, 1, rfl, rfl, by decide, ?_⟩
      exact sQ_e h (cif_f' (fun q => g q.2) rfl)
  · refine br_t xc_eq0 ?_
    refine ⟨A, F, 1, rfl, rfl, by decide, ?_⟩
    exact sQ_e h (cif_f' (fun q => isS_n hk hk8 g q.1) rfl)
