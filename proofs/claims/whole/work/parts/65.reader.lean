/-! ===== the class: the reader: what is read so far ===== -/
def RX (u : Bool) (A : XA) (F : Nat → Int32) : XW := [.inr (3, [.ref 1, .ref 5, .int (F 80), .int (F 81), .retAddr (bif u then 4 else 3)]), .inr (2, [.ref 2, .ref 3, .ref 4, .int (F 82)]), .inl (0, 50, .inl (A 2)), .inl (0, 50, .inl (A 3)), .inl (0, 4, .inl (A 4)), .inl (1, 50, .inl (A 5))]
def RXD (u : Bool) : List DC := [.inr (.inr (3, [(0, 1), (0, 5), (1, 80), (1, 81), (2, (bif u then 4 else 3))])), .inr (.inr (2, [(0, 2), (0, 3), (0, 4), (1, 82)])), .inl (0, 50), .inl (0, 50), .inl (0, 4), .inl (1, 50)]
theorem RX_dn {u : Bool} (A : XA) (F : Nat → Int32) : RX u A F = dn A F 0 (RXD u) := rfl
def LWx (A : XA) (F : Nat → Int32) : XW := [.inr (2, [.ref 1, .ref 2, .ref 3, .int (F 90)]), .inl (0, 50, .inl (A 1)), .inl (0, 50, .inl (A 2)), .inl (0, 4, .inl (A 3))]
def LWxD : List DC := [.inr (.inr (2, [(0, 1), (0, 2), (0, 3), (1, 90)])), .inl (0, 50), .inl (0, 50), .inl (0, 4)]
theorem LWx_dn (A : XA) (F : Nat → Int32) : LWx A F = dn A F 0 LWxD := rfl
theorem ckAdd {u : Bool} : cq (RXD u) LWxD [1, 2, 3, 4] [(90, 82)] = true := by
  cases u <;> decide +kernel
def sX2_add_RX : XS := fun as w post => ∃ (u : Bool) (A : XA) (F : Nat → Int32) (z : Nat) (x : Int32), as = [.ref 1, .int x] ∧ w = RX u A F ∧ F 82 = nI z ∧ z ≤ 50 ∧ (z < 50 → post none (RX u (aset A 2 (upd (A 2) z x)) (fset F 82 (nI (z + 1))))) ∧ (¬ z < 50 → post none (RX u A F))
theorem ap4 {A : XA} {f : Nat → Int32} : apu [1, 2, 3, 4] (aset (adn [1, 2, 3, 4] A) 1 f) A = aset A 2 f := by
  funext p
  by_cases q : p = 2
  · subst q
    rfl
  · rw [asN q]
    unfold apu
    cases hk : plk [1, 2, 3, 4] p with
    | none => rfl
    | some j =>
      have hj := plk_some hk
      have hj1 : j ≠ 1 := by
        intro e
        subst e
        exact q (Option.some.inj hj).symm
      show aset (adn [1, 2, 3, 4] A) 1 _ j = A p
      rw [asN hj1]
      show A (List.getD [1, 2, 3, 4] j 0) = A p
      rw [List.getD_eq_getElem?_getD, hj]
      rfl
theorem fp4 {F : Nat → Int32} {x : Int32} : fpu [(90, 82)] (fset (fdn [(90, 82)] F) 90 x) F = fset F 82 x := by
  funext q
  by_cases g : q = 82
  · subst g
    rfl
  · rw [fsN g]
    unfold fpu
    have b1 : Nat.beq 82 q = false := by
      cases hb : Nat.beq 82 q with
      | false => rfl
      | true => exact absurd (Nat.eq_of_beq_eq_true hb).symm g
    have e3 : rlk [(90, 82)] q = none := by
      unfold rlk
      rw [b1]
      rfl
    rw [e3]
set_option maxRecDepth 10000 in
set_option maxHeartbeats 1000000 in
theorem mX2_add_RX (d : Nat) (hd : 0 ≤ d) : xCT d yX2_add cX2_add 2 none sX2_add_RX := by
  refine xCT_in (mX2_add d hd) ?_
  rintro as w post ⟨u, A, F, z, x, rfl, rfl, hz, hz50, h1, h2⟩
  refine ⟨[1, 2, 3, 4], [.ref 0, .int x], LWx (adn [1, 2, 3, 4] A) (fdn [(90, 82)] F), rfl, cq_dn (ckAdd (u := u)) A F, rfl, A 2, A 3, A 4, z, x, rfl, by rw [← hz]; rfl, hz50, fun g => ?_, fun g => ?_⟩
  · refine cq_go (A := A) (F := F) (A' := aset (adn [1, 2, 3, 4] A) 1 (upd (A 2) z x)) (F' := fset (fdn [(90, 82)] F) 90 (nI (z + 1))) (Dc := LWxD) (ckAdd (u := u)) ?_
    rw [ap4, fp4]
    exact h1 g
  · rw [← hz]
    exact cq_id (A := A) (F := F) (Dc := LWxD) (ckAdd (u := u)) (by decide) (h2 g)
def sX2_clear_RX : XS := fun as w post => ∃ (u : Bool) (A : XA) (F : Nat → Int32), as = [.ref 1] ∧ w = RX u A F ∧ post none (RX u A (fset F 82 0))
set_option maxRecDepth 10000 in
set_option maxHeartbeats 1000000 in
theorem mX2_clear_RX (d : Nat) (hd : 0 ≤ d) : xCT d yX2_clear cX2_clear 1 none sX2_clear_RX := by
  refine xCT_in (mX2_clear d hd) ?_
  rintro as w post ⟨u, A, F, rfl, rfl, h1⟩
  refine ⟨[1, 2, 3, 4], [.ref 0], LWx (adn [1, 2, 3, 4] A) (fdn [(90, 82)] F), rfl, cq_dn (ckAdd (u := u)) A F, rfl, A 2, A 3, A 4, F 82, rfl, rfl, ?_⟩
  refine cq_go (A := A) (F := F) (A' := adn [1, 2, 3, 4] A) (F' := fset (fdn [(90, 82)] F) 90 0) (Dc := LWxD) (ckAdd (u := u)) ?_
  rw [apu_id, fp4]
  exact h1
/-- where the reader is -/
def RK (A : XA) (F : Nat → Int32) (b : Nat → Int32) (n p z : Nat) : Prop := F 80 = nI n ∧ n ≤ 50 ∧ F 81 = nI p ∧ p ≤ n ∧ F 82 = nI z ∧ z ≤ p ∧ (∀ j, j < n → A 5 j &&& 255 = b j)
/-- the parts acc have been read -/
def GD (A : XA) (F : Nat → Int32) (z : Nat) (A' : XA) (F' : Nat → Int32) (p : Nat) (acc : List Int32) : Prop := sm [2] A' A ∧ F' 81 = nI p ∧ F' 82 = nI (z + acc.length) ∧ (∀ i, i < z → A' 2 i = A 2 i) ∧ (∀ i (h : i < acc.length), A' 2 (z + i) = acc[i]) ∧ (∀ q, q ≠ 81 → q ≠ 82 → F' q = F q) ∧ z + acc.length ≤ p
def BD (A : XA) (F : Nat → Int32) (A' : XA) (F' : Nat → Int32) (p : Nat) : Prop := sm [2] A' A ∧ F' 81 = nI p ∧ (∃ z, z ≤ 50 ∧ F' 82 = nI z) ∧ (∀ q, q ≠ 81 → q ≠ 82 → F' q = F q)
theorem GD_rf {A : XA} {F b : Nat → Int32} {n p z : Nat} (h : RK A F b n p z) : GD A F z A F p [] := ⟨sm_rf, h.2.2.1, h.2.2.2.2.1, fun _ _ => rfl, fun i hi => absurd hi (Nat.not_lt_zero _), fun _ _ _ => rfl, h.2.2.2.2.2.1⟩
theorem GD_adv {A A' : XA} {F F' : Nat → Int32} {z p : Nat} {acc : List Int32} (h : GD A F z A' F' p acc) : GD A F z A' (fset F' 81 (nI (p + 1))) (p + 1) acc := ⟨h.1, rfl, h.2.2.1, h.2.2.2.1, h.2.2.2.2.1, fun q q1 q2 => (fsN q1).trans (h.2.2.2.2.2.1 q q1 q2), by have := h.2.2.2.2.2.2; omega⟩
theorem GD_add {A A' : XA} {F F' : Nat → Int32} {z p : Nat} {acc : List Int32} {x : Int32} (h : GD A F z A' F' p acc) (hp : z + acc.length < p) : GD A F z (aset A' 2 (upd (A' 2) (z + acc.length) x)) (fset F' 82 (nI (z + acc.length + 1))) p (acc ++ [x]) := by
  obtain ⟨h1, h2, h3, h4, h5, h6, h7⟩ := h
  refine ⟨sm_tr h1 (sm_aset rfl), h2, ?_, fun i hi => ?_, fun i hi => ?_, fun q q1 q2 => (fsN q2).trans (h6 q q1 q2), by rw [List.length_append]; exact hp⟩
  · show nI (z + acc.length + 1) = _
    rw [List.length_append]
    rfl
  · show upd (A' 2) (z + acc.length) x i = _
    rw [pk_un (by omega)]
    exact h4 i hi
  · show upd (A' 2) (z + acc.length) x (z + i) = _
    rw [List.length_append] at hi
    by_cases q : i < acc.length
    · rw [pk_un (by omega), List.getElem_append_left q]
      exact h5 i q
    · have hi : i < acc.length + 1 := hi
      have e : i = acc.length := by omega
      subst e
      rw [pk_us, List.getElem_append_right (by omega)]
      simp
theorem GD_sub {A A1 A2 : XA} {F F1 F2 : Nat → Int32} {z p1 p2 : Nat} {acc ps : List Int32} (h : GD A F z A1 F1 p1 acc) (g : GD A1 F1 (z + acc.length) A2 F2 p2 ps) : GD A F z A2 F2 p2 (acc ++ ps) := by
  obtain ⟨h1, h2, h3, h4, h5, h6, h7⟩ := h
  obtain ⟨g1, g2, g3, g4, g5, g6, g7⟩ := g
  refine ⟨sm_tr h1 g1, g2, by rw [g3, List.length_append, Nat.add_assoc], fun i hi => (g4 i (by omega)).trans (h4 i hi), fun i hi => ?_, fun q q1 q2 => (g6 q q1 q2).trans (h6 q q1 q2), by rw [List.length_append]; omega⟩
  rw [List.length_append] at hi
  by_cases q : i < acc.length
  · rw [List.getElem_append_left q, g4 _ (by omega)]
    exact h5 i q
  · rw [List.getElem_append_right (by omega)]
    have := g5 (i - acc.length) (by omega)
    rw [show z + acc.length + (i - acc.length) = z + i by omega] at this
    exact this
theorem RK_of {A A' : XA} {F F' b : Nat → Int32} {n p z p1 : Nat} {acc : List Int32} (h : RK A F b n p z) (g : GD A F z A' F' p1 acc) (hp : p1 ≤ n) : RK A' F' b n p1 (z + acc.length) := by
  obtain ⟨h1, h2, h3, h4, h5, h6, h7⟩ := h
  obtain ⟨g1, g2, g3, g4, g5, g6, g7⟩ := g
  exact ⟨(g6 80 (by omega) (by omega)).trans h1, h2, g2, hp, g3, g7, fun j hj => by rw [g1 5 rfl]; exact h7 j hj⟩
theorem BD_of {A A1 A2 : XA} {F F1 F2 : Nat → Int32} {z p1 q : Nat} {acc : List Int32} (h : GD A F z A1 F1 p1 acc) (g : BD A1 F1 A2 F2 q) : BD A F A2 F2 q := ⟨sm_tr h.1 g.1, g.2.1, g.2.2.1, fun q q1 q2 => (g.2.2.2 q q1 q2).trans (h.2.2.2.2.2.1 q q1 q2)⟩
theorem GD_bd {A A1 : XA} {F F1 : Nat → Int32} {z p1 : Nat} {acc : List Int32} (h : GD A F z A1 F1 p1 acc) (hp : p1 ≤ 50) : BD A F A1 F1 p1 := ⟨h.1, h.2.1, ⟨z + acc.length, by have := h.2.2.2.2.2.2; omega, h.2.2.1⟩, h.2.2.2.2.2.1⟩
theorem cat2_ok {p1 p2 : Nat} {acc ps : List Int32} {X K : Nat → PT} (h : X p1 = (true, p2, ps)) : cat2 (true, p1, acc) (fun q => cat2 (X q) K) = cat2 (true, p2, acc ++ ps) K := by
  show (match cat2 (X p1) K with
    | (true, q2, qs) => (true, q2, acc ++ qs)
    | (false, q2, _) => (false, q2, [])) = _
  rw [h]
  show (match (match K p2 with
    | (true, q2, qs) => (true, q2, ps ++ qs)
    | (false, q2, _) => (false, q2, [])) with
    | (true, q2, qs) => (true, q2, acc ++ qs)
    | (false, q2, _) => (false, q2, [])) = (match K p2 with
    | (true, q2, qs) => (true, q2, (acc ++ ps) ++ qs)
    | (false, q2, _) => (false, q2, []))
  cases hk : K p2 with
  | mk o x =>
    obtain ⟨q, qs⟩ := x
    cases o with
    | true => exact congrArg (fun l => (true, q, l)) (List.append_assoc acc ps qs).symm
    | false => rfl
theorem cat2_no {p1 q : Nat} {acc ps : List Int32} {X K : Nat → PT} (h : X p1 = (false, q, ps)) : cat2 (true, p1, acc) (fun q => cat2 (X q) K) = (false, q, []) := by
  show (match cat2 (X p1) K with
    | (true, q2, qs) => (true, q2, acc ++ qs)
    | (false, q2, _) => (false, q2, [])) = _
  rw [h]
  rfl
theorem cat2_d {p1 : Nat} {acc : List Int32} {K : Nat → PT} (h : K p1 = (true, p1, [])) : cat2 (true, p1, acc) K = (true, p1, acc) := by
  show (match K p1 with
    | (true, q2, qs) => (true, q2, acc ++ qs)
    | (false, q2, _) => (false, q2, [])) = _
  rw [h]
  show (true, p1, acc ++ []) = _
  rw [List.append_nil]
theorem PT_t {r : PT} (h : r.1 = true) : r = (true, r.2.1, r.2.2) := by
  obtain ⟨o, q, ps⟩ := r
  cases h
  rfl
theorem PT_f {r : PT} (h : r.1 = false) : r = (false, r.2.1, r.2.2) := by
  obtain ⟨o, q, ps⟩ := r
  cases h
  rfl
def sX3_sign : XS := fun as w post => ∃ (u : Bool) (A : XA) (F b : Nat → Int32) (n p : Nat), as = [.ref 0] ∧ w = RX u A F ∧ F 80 = nI n ∧ n ≤ 50 ∧ F 81 = nI p ∧ p ≤ 50 ∧ (∀ j, j < n → A 5 j &&& 255 = b j) ∧ ∀ v, v = hr b n p → post (some (.int v)) (RX u A F)
set_option maxRecDepth 10000 in
set_option maxHeartbeats 1000000 in
theorem mX3_sign (d : Nat) (hd : 0 ≤ d) : xCT d yX3_sign cX3_sign 1 (some .int) sX3_sign := by
  refine xmet0 (tb := tX3_sign) (fl := fX3) (kc := nX3) (gs := g0) (cl := xlk []) 400 (by decide) tX3_sign_ok fX3_ok nX3_ok g0_ok xg_nil ?_
  rintro L xs as w Qp ⟨u, A, F, b, n, p, rfl, rfl, h80, hn, h81, hp, hb, h⟩
  refine ⟨Nat.le_of_ble_eq_true rfl, ?_⟩
  refine And.intro (fun g => ?_) (fun g => ?_)
  · have g : F 80 ≤ F 81 := g
    rw [h80, h81, fa_le, nI_toInt (by omega), nI_toInt (by omega)] at g
    refine h _ ?_
    unfold hr
    rw [if_neg (by omega)]
    rfl
  · have g : ¬ F 80 ≤ F 81 := g
    rw [h80, h81, fa_le, nI_toInt (by omega), nI_toInt (by omega)] at g
    have hlt : p < n := by omega
    refine And.intro (by show vp_in (F 81) 50; rw [h81]; exact vp_in_nI (by omega) (by decide)) ?_
    refine h _ ?_
    unfold hr
    rw [if_pos hlt, ← hb p hlt, h81, cl (by omega)]
    rfl
def sX3_isDigit : XS := fun as w post => ∃ x : Int32, as = [.int x] ∧ (isdg x → post (some (.int 1)) w) ∧ (¬ isdg x → post (some (.int 0)) w)
set_option maxRecDepth 10000 in
set_option maxHeartbeats 1000000 in
theorem mX3_isDigit (d : Nat) (hd : 0 ≤ d) : xCT d yX3_isDigit cX3_isDigit 1 (some .boolean) sX3_isDigit := by
  refine xmet0 (tb := tX3_isDigit) (fl := fX3) (kc := nX3) (gs := g0) (cl := xlk []) 400 (by decide) tX3_isDigit_ok fX3_ok nX3_ok g0_ok xg_nil ?_
  rintro L xs as w Qp ⟨x, rfl, h1, h2⟩
  refine ⟨Nat.le_of_ble_eq_true rfl, ?_⟩
  refine And.intro (fun g => ?_) (fun g => ?_)
  · have g : x < 48 := g
    exact ⟨rfl, h2 (fun q => (fa_of_lt g).2.1 q.1)⟩
  · have g : ¬ x < 48 := g
    refine And.intro (fun g2 => ?_) (fun g2 => ?_)
    · have g2 : 57 < x := g2
      exact ⟨rfl, h2 (fun q => (fa_of_lt g2).2.1 q.2)⟩
    · have g2 : ¬ 57 < x := g2
      exact ⟨rfl, h1 ⟨fa_of_nlt g, fa_of_nlt g2⟩⟩
