/-! ===== the class: a law's value ===== -/
/-- the stack in an array -/
def sk (s : Nat → Int32) : List Int32 → Prop
  | [] => True
  | x :: r => s r.length = x ∧ sk s r
theorem sk_upd {s : Nat → Int32} {j : Nat} {x : Int32} : ∀ {r : List Int32}, r.length ≤ j → sk s r → sk (upd s j x) r
  | [], _, _ => trivial
  | y :: r, h, ⟨h1, h2⟩ => by
    have h : r.length + 1 ≤ j := h
    refine ⟨?_, sk_upd (by omega) h2⟩
    rw [pk_un (by omega)]
    exact h1
theorem sk_set {s : Nat → Int32} {x : Int32} {r : List Int32} (h : sk s r) : sk (upd s r.length x) (x :: r) := ⟨pk_us, sk_upd (Nat.le_refl _) h⟩
theorem nI_dec (m : Nat) : nI (m + 1) + (-1) = nI m := by rw [← Int32.sub_eq_add_neg, nI_pred]
def sX2_valueOf : XS := fun as w post => ∃ (p s n : Nat → Int32) (ps : List Int32) (a b c e v : Int32), as = [.ref 0, .int a, .int b, .int c, .int e] ∧ w = LW p s n (nI ps.length) ∧ ps.length ≤ 50 ∧ (∀ i (h : i < ps.length), p i = ps[i]) ∧ (∀ t ∈ ps, ptok t) ∧ evS (nms a b c e) ps [] = [v] ∧ ∀ s' n', post (some (.int v)) (LW p s' n' (nI ps.length))
theorem lwset {p s n s' : Nat → Int32} {z : Int32} (h : s = s') (w : Nat → Int32) : List.set (LW p w n z) 2 (.inl (0, 50, .inl s)) = LW p s' n z := by
  subst h
  rfl
set_option maxRecDepth 10000 in
set_option maxHeartbeats 1000000 in
theorem mX2_valueOf (d : Nat) (hd : 1 ≤ d) : xCT d yX2_valueOf cX2_valueOf 8 (some .int) sX2_valueOf := by
  obtain ⟨d, rfl⟩ : ∃ e, d = e + 1 := ⟨d - 1, by omega⟩
  refine xmet (tb := tX2_valueOf) (fl := fX2) (kc := nX2) (gs := g0) (cl := xlk [(31, false, 3, sX2_joined)]) (by decide) tX2_valueOf_ok fX2_ok nX2_ok g0_ok (xg_cons (k_X2_31 (mX2_joined d (by omega))) xg_nil) ?_
  rintro L xs as w Qp ⟨p, s, n, ps, a, b, c, e, v, rfl, rfl, hl, hp, hok, hv, h⟩
  refine ⟨Nat.le_of_ble_eq_true rfl, 400, xlk [(35, 7)], fun m pc ls st w => pc = 35 ∧ st = [] ∧ ∃ (i : Nat) (sl : List Int32) (s' : Nat → Int32), i ≤ ps.length ∧ m = ps.length - i ∧ sl.length ≤ i ∧ sk s' sl ∧ evS (nms a b c e) (ps.drop i) sl = [v] ∧ ls = [(0, .ref 0), (1, .int a), (2, .int b), (3, .int c), (4, .int e), (5, .int (nI sl.length)), (6, .int (nI i))] ∧ w = LW p s' (upd (upd (upd (upd n 0 a) 1 b) 2 c) 3 e) (nI ps.length), ?_, ?_⟩
  · refine And.intro (vl 0 4 rfl rfl) (And.intro (vl 1 4 rfl rfl) (And.intro (vl 2 4 rfl rfl) (And.intro (vl 3 4 rfl rfl) ?_)))
    exact ⟨ps.length, rfl, rfl, 0, [], s, Nat.zero_le _, rfl, Nat.le_refl _, trivial, hv, rfl, rfl⟩
  · rintro m pc m9 ls st w hc ⟨rfl, rfl, i, sl, s', hi, rfl, hsl, hsk, hev, rfl, rfl⟩
    refine And.intro (fun g => ?_) (fun g => ?_)
    · have := ge_n rfl (by omega) (by omega) g
      have ei : i = ps.length := by omega
      rw [ei, List.drop_length] at hev
      have hev : sl = [v] := hev
      subst hev
      refine And.intro (vl 0 50 rfl rfl) ?_
      have e0 : s' 0 = v := hsk.1
      have hq := h s' (upd (upd (upd (upd n 0 a) 1 b) 2 c) 3 e)
      rw [← e0] at hq
      exact hq
    · have hlt := nge_n rfl (by omega) (by omega) g
      have ep : p (nI i).toNatClampNeg = ps[i] := by rw [cl (by omega)]; exact hp i hlt
      rw [List.drop_eq_getElem_cons hlt] at hev
      have htok := hok _ (List.getElem_mem hlt)
      rw [← ep] at hev htok
      refine And.intro (vp_in_nI (by omega) (by decide)) ?_
      generalize p (nI i).toNatClampNeg = t at hev htok ⊢
      have hev : evS (nms a b c e) (ps.drop (i + 1)) (evT (nms a b c e) t sl) = [v] := hev
      have go : ∀ (sl2 : List Int32) (s2 s3 : Nat → Int32) (x : Int32), s3 = s2 → x = nI sl2.length → sl2.length ≤ i + 1 → sk s2 sl2 → evT (nms a b c e) t sl = sl2 → ∃ n', n' < ps.length - i ∧ 35 = 35 ∧ ([] : List Value) = [] ∧ ∃ (i' : Nat) (sl : List Int32) (s' : Nat → Int32), i' ≤ ps.length ∧ n' = ps.length - i' ∧ sl.length ≤ i' ∧ sk s' sl ∧ evS (nms a b c e) (ps.drop i') sl = [v] ∧ [(0, Value.ref 0), (1, Value.int a), (2, Value.int b), (3, Value.int c), (4, Value.int e), (5, Value.int x), (6, Value.int (nI i + 1))] = [(0, .ref 0), (1, .int a), (2, .int b), (3, .int c), (4, .int e), (5, .int (nI sl.length)), (6, .int (nI i'))] ∧ LW p s3 (upd (upd (upd (upd n 0 a) 1 b) 2 c) 3 e) (nI ps.length) = LW p s' (upd (upd (upd (upd n 0 a) 1 b) 2 c) 3 e) (nI ps.length) := by
        rintro sl2 s2 s3 x rfl rfl h1 h2 h3
        rw [h3] at hev
        exact ⟨ps.length - (i + 1), by omega, rfl, rfl, i + 1, sl2, s3, hlt, rfl, h1, h2, hev, by rw [nI_1], rfl⟩
      have ec : (nI sl.length).toNatClampNeg = sl.length := cl (by omega)
      refine And.intro (fun g2 => ?_) (fun g2 => ?_)
      · have g2 : t < 0 := g2
        have g2' : ¬ 0 ≤ t := (fa_of_lt g2).2.1
        refine And.intro (fun g3 => ?_) (fun g3 => ?_)
        · have g3 : ¬ t = -33 := g3
          refine And.intro (fun g4 => ?_) (fun g4 => ?_)
          · have g4 : nI sl.length ≤ nI 1 := g4
            rw [fa_le, nI_toInt (by omega), nI_toInt (by omega)] at g4
            refine go sl s' s' _ rfl rfl (by omega) hsk ?_
            unfold evT
            rw [cif_f g2', cif_f g3]
            match sl, g4 with
            | [], _ => rfl
            | [x], _ => rfl
            | y :: x :: r, g4 =>
              have g4 : ((r.length + 1 + 1 : Nat) : Int) ≤ 1 := g4
              omega
          · have g4 : ¬ nI sl.length ≤ nI 1 := g4
            rw [fa_le, nI_toInt (by omega), nI_toInt (by omega)] at g4
            obtain ⟨y, x, r, er⟩ : ∃ y x r, sl = y :: x :: r := by
              match sl, g4 with
              | [], g4 => exact absurd (show ((0 : Nat) : Int) ≤ 1 by omega) g4
              | [x], g4 => exact absurd (show ((1 : Nat) : Int) ≤ 1 by omega) g4
              | y :: x :: r, _ => exact ⟨y, x, r, rfl⟩
            subst er
            obtain ⟨hy, hx, hr⟩ := hsk
            have hy : s' (r.length + 1) = y := hy
            have hsl : r.length + 1 + 1 ≤ i := hsl
            have ed : nI (r.length + 1 + 1) + (-1) = nI (r.length + 1) := nI_dec _
            have ed2 : nI (r.length + 1 + 1) + (-1) - 1 = nI r.length := by rw [ed, nI_pred]
            have i2 : vp_in (nI (r.length + 1 + 1) + (-1) - 1) 50 := by rw [ed2]; exact vp_in_nI (by omega) (by decide)
            have i1 : vp_in (nI (r.length + 1 + 1) + (-1)) 50 := by rw [ed]; exact vp_in_nI (by omega) (by decide)
            refine And.intro i2 (And.intro i1 ?_)
            refine ⟨-t, s' (nI (r.length + 1 + 1) + (-1) - 1).toNatClampNeg, s' (nI (r.length + 1 + 1) + (-1)).toNatClampNeg, rfl, ?_⟩
            refine And.intro i2 ?_
            refine go (jn (-t) x y :: r) (upd s' r.length (jn (-t) x y)) _ _ ?_ ?_ (by show r.length + 1 ≤ i + 1; omega) (sk_set hr) ?_
            · show upd s' (nI (r.length + 1 + 1) + (-1) - 1).toNatClampNeg (jn (-t) (s' (nI (r.length + 1 + 1) + (-1) - 1).toNatClampNeg) (s' (nI (r.length + 1 + 1) + (-1)).toNatClampNeg)) = _
              rw [ed2, ed, cl (by omega), cl (by omega), hx, hy]
            · exact ed
            · unfold evT
              rw [cif_f g2', cif_f g3]
        · have g3 : t = -33 := Classical.byContradiction g3
          subst g3
          refine And.intro (fun g4 => ?_) (fun g4 => ?_)
          · have g4 : nI sl.length ≤ nI 0 := g4
            rw [fa_le, nI_toInt (by omega), nI_toInt (by omega)] at g4
            have er : sl = [] := List.eq_nil_of_length_eq_zero (by omega)
            subst er
            refine And.intro (fun g5 => ?_) (fun g5 => absurd (show (nI 0 : Int32) ≤ nI 1 by decide) g5)
            refine go [] s' s' _ rfl rfl (by show 0 ≤ i + 1; omega) trivial ?_
            unfold evT
            rw [cif_f (by decide), cif_t rfl]
          · have g4 : ¬ nI sl.length ≤ nI 0 := g4
            rw [fa_le, nI_toInt (by omega), nI_toInt (by omega)] at g4
            obtain ⟨x, r, er⟩ : ∃ x r, sl = x :: r := by
              match sl, g4 with
              | [], g4 => exact absurd (show ((0 : Nat) : Int) ≤ 0 by omega) g4
              | x :: r, _ => exact ⟨x, r, rfl⟩
            subst er
            obtain ⟨hx, hr⟩ := hsk
            have hsl : r.length + 1 ≤ i := hsl
            have ed : nI (r.length + 1) - 1 = nI r.length := nI_pred _
            have i1 : vp_in (nI (r.length + 1) - 1) 50 := by rw [ed]; exact vp_in_nI (by omega) (by decide)
            have ex : s' (nI (r.length + 1) - 1).toNatClampNeg = x := by rw [ed, cl (by omega)]; exact hx
            refine And.intro i1 ?_
            refine And.intro (fun g5 => ?_) (fun g5 => ?_)
            · have g5 : ¬ s' (nI (r.length + 1) - 1).toNatClampNeg = 0 := g5
              rw [ex] at g5
              refine And.intro i1 ?_
              refine go (0 :: r) (upd s' r.length 0) _ _ ?_ rfl (by show r.length + 1 ≤ i + 1; omega) (sk_set hr) ?_
              · show upd s' (nI (r.length + 1) - 1).toNatClampNeg 0 = _
                rw [ed, cl (by omega)]
              · unfold evT
                rw [cif_f (by decide), cif_t rfl]
                show cif (x = 0) 1 0 :: r = _
                rw [cif_f g5]
            · have g5 : s' (nI (r.length + 1) - 1).toNatClampNeg = 0 := Classical.byContradiction g5
              rw [ex] at g5
              refine And.intro i1 ?_
              refine go (1 :: r) (upd s' r.length 1) _ _ ?_ rfl (by show r.length + 1 ≤ i + 1; omega) (sk_set hr) ?_
              · show upd s' (nI (r.length + 1) - 1).toNatClampNeg 1 = _
                rw [ed, cl (by omega)]
              · unfold evT
                rw [cif_f (by decide), cif_t rfl]
                show cif (x = 0) 1 0 :: r = _
                rw [cif_t g5]
      · have g2 : ¬ t < 0 := g2
        have g2' : 0 ≤ t := fa_of_nlt g2
        have i1 : vp_in (nI sl.length) 50 := vp_in_nI (by omega) (by decide)
        refine And.intro (fun g3 => ?_) (fun g3 => ?_)
        · have g3 : 10000 ≤ t := g3
          have g3' : ¬ t < 10000 := fun q => (fa_of_lt q).2.1 g3
          obtain ⟨j, hj, et⟩ : ∃ j : Nat, j < 4 ∧ t - 10000 = nI j := by
            rcases htok with ⟨w, hw, ew⟩ | ew | ⟨o, ho, ew⟩
            · rw [ew] at g3
              have g3 : nI 10000 ≤ nI w := g3
              rw [fa_le, nI_toInt (by omega), nI_toInt (by omega)] at g3
              refine ⟨w - 10000, by omega, ?_⟩
              rw [ew, show (10000 : Int32) = nI 10000 from rfl, pk_sub (by omega)]
            · rw [ew] at g2
              exact absurd (by decide) g2
            · rw [ew] at g2'
              exact absurd g2' (isop_n ho).1
          refine And.intro (by show vp_in (t - 10000) 4; rw [et]; exact vp_in_nI hj (by decide)) ?_
          refine And.intro i1 ?_
          have en : upd (upd (upd (upd n 0 a) 1 b) 2 c) 3 e (t - 10000).toNatClampNeg = nms a b c e (t - 10000).toNatClampNeg := by
            rw [et, cl (by omega)]
            rcases h4 hj with rfl | rfl | rfl | rfl
            · rfl
            · rfl
            · rfl
            · rfl
          refine go (nms a b c e (t - 10000).toNatClampNeg :: sl) (upd s' sl.length (nms a b c e (t - 10000).toNatClampNeg)) _ _ ?_ ?_ (by show sl.length + 1 ≤ i + 1; omega) (sk_set hsk) ?_
          · show upd s' (nI sl.length).toNatClampNeg (upd (upd (upd (upd n 0 a) 1 b) 2 c) 3 e (t - 10000).toNatClampNeg) = _
            rw [ec, en]
          · exact nI_1 _
          · unfold evT
            rw [cif_t g2', cif_f g3']
        · have g3 : ¬ 10000 ≤ t := g3
          refine And.intro i1 ?_
          refine go (t :: sl) (upd s' sl.length t) _ _ ?_ ?_ (by show sl.length + 1 ≤ i + 1; omega) (sk_set hsk) ?_
          · show upd s' (nI sl.length).toNatClampNeg t = _
            rw [ec]
          · exact nI_1 _
          · unfold evT
            rw [cif_t g2', cif_t (fa_of_nle g3)]
