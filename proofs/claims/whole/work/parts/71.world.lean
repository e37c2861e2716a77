/-! ===== the class as one world ===== -/
def CW (s : Bool) (t : Bool) (u : Bool) (A : XA) (F : Nat → Int32) : XW := [.inr (9, [.ref 1, .ref 19, .ref 37, .ref 47, .ref 50, .ref 53, .ref 59, .ref 65, .ref 73, .ref 75, .ref 81, .ref 82, .int (F 1)]), .inr (1, [.ref 2, .ref 3, .ref 4, .ref 5, .ref 6, .ref 7, .ref 8, .ref 9, .ref 10, .ref 11, .ref 15, .int (F 11), .int (F 12), .int (F 13), .int (F 14), .int (F 15), .int (F 16)]), .inl (0, 8, .inl (A 2)), .inl (0, 8, .inl (A 3)), .inl (0, 8, .inl (A 4)), .inl (0, 8, .inl (A 5)), .inl (0, 8, .inl (A 6)), .inl (0, 8, .inl (A 7)), .inl (0, 8, .inl (A 8)), .inl (1, 50, .inl (A 9)), .inl (0, 20, .inl (A 10)), .inr (2, [.ref 12, .ref 13, .ref 14, .int (F 20)]), .inl (0, 50, .inl (A 12)), .inl (0, 50, .inl (A 13)), .inl (0, 4, .inl (A 14)), .inr (2, [.ref 16, .ref 17, .ref 18, .int (F 21)]), .inl (0, 50, .inl (A 16)), .inl (0, 50, .inl (A 17)), .inl (0, 4, .inl (A 18)), .inr (1, [.ref 20, .ref 21, .ref 22, .ref 23, .ref 24, .ref 25, .ref 26, .ref 27, .ref 28, .ref 29, .ref 33, .int (F 31), .int (F 32), .int (F 33), .int (F 34), .int (F 35), .int (F 36)]), .inl (0, 8, .inl (A 20)), .inl (0, 8, .inl (A 21)), .inl (0, 8, .inl (A 22)), .inl (0, 8, .inl (A 23)), .inl (0, 8, .inl (A 24)), .inl (0, 8, .inl (A 25)), .inl (0, 8, .inl (A 26)), .inl (1, 50, .inl (A 27)), .inl (0, 20, .inl (A 28)), .inr (2, [.ref 30, .ref 31, .ref 32, .int (F 40)]), .inl (0, 50, .inl (A 30)), .inl (0, 50, .inl (A 31)), .inl (0, 4, .inl (A 32)), .inr (2, [.ref 34, .ref 35, .ref 36, .int (F 41)]), .inl (0, 50, .inl (A 34)), .inl (0, 50, .inl (A 35)), .inl (0, 4, .inl (A 36)), .inr (7, [.ref 38]), .inl (2, 8, .inr (.inr (.inr (.inr (KT 8 39))))), .inl (0, 144, .inl (A 39)), .inl (0, 144, .inl (A 40)), .inl (0, 144, .inl (A 41)), .inl (0, 144, .inl (A 42)), .inl (0, 144, .inl (A 43)), .inl (0, 144, .inl (A 44)), .inl (0, 144, .inl (A 45)), .inl (0, 144, .inl (A 46)), .inr (5, [.ref (bif s then 49 else 48), .ref (bif s then 48 else 49)]), .inl (0, 8, .inl (A 48)), .inl (0, 8, .inl (A 49)), .inr (5, [.ref (bif t then 52 else 51), .ref (bif t then 51 else 52)]), .inl (0, 8, .inl (A 51)), .inl (0, 8, .inl (A 52)), .inr (4, [.int (F 50), .int (F 51), .int (F 52), .int (F 53), .ref 54, .ref 55, .ref 56, .ref 57, .ref 58, .int (F 54)]), .inl (0, 8, .inl (A 54)), .inl (0, 8, .inl (A 55)), .inl (0, 1024, .inl (A 56)), .inl (0, 1024, .inl (A 57)), .inl (0, 1024, .inl (A 58)), .inr (0, [.int (F 60), .int (F 61), .int (F 62), .int (F 63), .ref 60, .ref 61, .ref 62, .ref 63, .ref 64]), .inl (0, 3000, .inl (A 60)), .inl (0, 3000, .inl (A 61)), .inl (0, 8, .inl (A 62)), .inl (0, 8, .inl (A 63)), .inl (0, 96, .inl (A 64)), .inr (6, [.ref 66, .ref 67, .ref 68]), .inl (0, 4, .inl (A 66)), .inl (0, 4, .inl (A 67)), .inl (2, 4, .inr (.inr (.inr (.inr (KT 4 69))))), .inl (0, 40, .inl (A 69)), .inl (0, 40, .inl (A 70)), .inl (0, 40, .inl (A 71)), .inl (0, 40, .inl (A 72)), .inr (8, [.ref 74, .int (F 70), .int (F 71), .int (F 72), .int (F 73)]), .inl (0, 40, .inl (A 74)), .inr (3, [.ref 76, .ref 80, .int (F 80), .int (F 81), .retAddr (bif u then 4 else 3)]), .inr (2, [.ref 77, .ref 78, .ref 79, .int (F 82)]), .inl (0, 50, .inl (A 77)), .inl (0, 50, .inl (A 78)), .inl (0, 4, .inl (A 79)), .inl (1, 50, .inl (A 80)), .inl (0, 1120, .inl (A 81)), .inl (0, 6, .inl (A 82))]
def CWD (s : Bool) (t : Bool) (u : Bool) : List DC := [.inr (.inr (9, [(0, 1), (0, 19), (0, 37), (0, 47), (0, 50), (0, 53), (0, 59), (0, 65), (0, 73), (0, 75), (0, 81), (0, 82), (1, 1)])), .inr (.inr (1, [(0, 2), (0, 3), (0, 4), (0, 5), (0, 6), (0, 7), (0, 8), (0, 9), (0, 10), (0, 11), (0, 15), (1, 11), (1, 12), (1, 13), (1, 14), (1, 15), (1, 16)])), .inl (0, 8), .inl (0, 8), .inl (0, 8), .inl (0, 8), .inl (0, 8), .inl (0, 8), .inl (0, 8), .inl (1, 50), .inl (0, 20), .inr (.inr (2, [(0, 12), (0, 13), (0, 14), (1, 20)])), .inl (0, 50), .inl (0, 50), .inl (0, 4), .inr (.inr (2, [(0, 16), (0, 17), (0, 18), (1, 21)])), .inl (0, 50), .inl (0, 50), .inl (0, 4), .inr (.inr (1, [(0, 20), (0, 21), (0, 22), (0, 23), (0, 24), (0, 25), (0, 26), (0, 27), (0, 28), (0, 29), (0, 33), (1, 31), (1, 32), (1, 33), (1, 34), (1, 35), (1, 36)])), .inl (0, 8), .inl (0, 8), .inl (0, 8), .inl (0, 8), .inl (0, 8), .inl (0, 8), .inl (0, 8), .inl (1, 50), .inl (0, 20), .inr (.inr (2, [(0, 30), (0, 31), (0, 32), (1, 40)])), .inl (0, 50), .inl (0, 50), .inl (0, 4), .inr (.inr (2, [(0, 34), (0, 35), (0, 36), (1, 41)])), .inl (0, 50), .inl (0, 50), .inl (0, 4), .inr (.inr (7, [(0, 38)])), .inr (.inl (8, 39)), .inl (0, 144), .inl (0, 144), .inl (0, 144), .inl (0, 144), .inl (0, 144), .inl (0, 144), .inl (0, 144), .inl (0, 144), .inr (.inr (5, [(0, (bif s then 49 else 48)), (0, (bif s then 48 else 49))])), .inl (0, 8), .inl (0, 8), .inr (.inr (5, [(0, (bif t then 52 else 51)), (0, (bif t then 51 else 52))])), .inl (0, 8), .inl (0, 8), .inr (.inr (4, [(1, 50), (1, 51), (1, 52), (1, 53), (0, 54), (0, 55), (0, 56), (0, 57), (0, 58), (1, 54)])), .inl (0, 8), .inl (0, 8), .inl (0, 1024), .inl (0, 1024), .inl (0, 1024), .inr (.inr (0, [(1, 60), (1, 61), (1, 62), (1, 63), (0, 60), (0, 61), (0, 62), (0, 63), (0, 64)])), .inl (0, 3000), .inl (0, 3000), .inl (0, 8), .inl (0, 8), .inl (0, 96), .inr (.inr (6, [(0, 66), (0, 67), (0, 68)])), .inl (0, 4), .inl (0, 4), .inr (.inl (4, 69)), .inl (0, 40), .inl (0, 40), .inl (0, 40), .inl (0, 40), .inr (.inr (8, [(0, 74), (1, 70), (1, 71), (1, 72), (1, 73)])), .inl (0, 40), .inr (.inr (3, [(0, 76), (0, 80), (1, 80), (1, 81), (2, (bif u then 4 else 3))])), .inr (.inr (2, [(0, 77), (0, 78), (0, 79), (1, 82)])), .inl (0, 50), .inl (0, 50), .inl (0, 4), .inl (1, 50), .inl (0, 1120), .inl (0, 6)]
theorem CW_dn {s : Bool} {t : Bool} {u : Bool} (A : XA) (F : Nat → Int32) : CW s t u A F = dn A F 0 (CWD s t u) := rfl
def CP1 : List Nat := [1, 2, 3, 4, 5, 6, 7, 8, 9, 10, 11, 12, 13, 14, 15, 16, 17, 18]
def CP19 : List Nat := [19, 20, 21, 22, 23, 24, 25, 26, 27, 28, 29, 30, 31, 32, 33, 34, 35, 36]
def KF : List (Nat × Nat) := [(11, 31), (12, 32), (13, 33), (14, 34), (15, 35), (16, 36), (20, 40), (21, 41)]
theorem fckKF : fck KF = true := by decide
/-- outside the places two descriptions are the same -/
def dag (ps : List Nat) : Nat → List DC → List DC → Bool
  | _, [], [] => true
  | p, c :: r, c' :: r' => (match plk ps p with
    | some _ => true
    | none => decide (c = c')) && dag ps (p + 1) r r'
  | _, _, _ => false
theorem dag_at {ps : List Nat} : ∀ {D D' : List DC} {p j : Nat}, dag ps p D D' = true → plk ps (p + j) = none → D[j]? = D'[j]?
  | [], [], _, _, _, _ => rfl
  | [], _ :: _, _, _, h, _ => by cases h
  | _ :: _, [], _, _, h, _ => by cases h
  | c :: r, c' :: r', p, 0, h, hp => by
    obtain ⟨h1, _⟩ := bnd h
    rw [show p = p + 0 from rfl, hp] at h1
    rw [of_decide_eq_true h1]
    rfl
  | c :: r, c' :: r', p, j + 1, h, hp => by
    obtain ⟨_, h2⟩ := bnd h
    have := dag_at h2 (j := j) (by rw [show p + 1 + j = p + (j + 1) by omega]; exact hp)
    simpa using this
theorem dag_len {ps : List Nat} : ∀ {D D' : List DC} {p : Nat}, dag ps p D D' = true → D.length = D'.length
  | [], [], _, _ => rfl
  | [], _ :: _, _, h => by cases h
  | _ :: _, [], _, h => by cases h
  | c :: r, c' :: r', p, h => congrArg (· + 1) (dag_len (bnd h).2)
theorem xputs_ag {ps : List Nat} {es : List va_E} {w w' : XW} (hl : w.length = w'.length) (he : es.length = ps.length) (hnd : va_nd ps = true) (h : ∀ k, k ∉ ps → w[k]? = w'[k]?) : xputs w ps es = xputs w' ps es := by
  apply List.ext_getElem?
  intro k
  by_cases hk : k ∈ ps
  · obtain ⟨j, hj⟩ := List.getElem?_of_mem hk
    have hjl : j < es.length := by rw [he]; exact (List.getElem?_eq_some_iff.mp hj).1
    have e9 : es[j]? = some es[j] := List.getElem?_eq_getElem hjl
    by_cases hkl : k < w.length
    · rw [xputs_in ps es w j k _ hnd hj e9 hkl, xputs_in ps es w' j k _ hnd hj e9 (by omega)]
    · rw [List.getElem?_eq_none_iff.mpr (by rw [xputs_len]; omega), List.getElem?_eq_none_iff.mpr (by rw [xputs_len]; omega)]
  · rw [xputs_out ps es w k hk, xputs_out ps es w' k hk]
    exact h k hk
theorem plk_no : ∀ {ps : List Nat} {p : Nat}, p ∉ ps → plk ps p = none
  | [], _, _ => rfl
  | q :: qs, p, h => by
    unfold plk
    cases hb : Nat.beq q p with
    | true => exact absurd (by rw [Nat.eq_of_beq_eq_true hb]; exact List.mem_cons_self) h
    | false =>
      rw [plk_no (fun hm => h (List.mem_cons_of_mem _ hm))]
      rfl
theorem cq_go2 {D D' Dc : List DC} {ps : List Nat} {fm : List (Nat × Nat)} (h : cq D' Dc ps fm = true) (hd : dag ps 0 D D' = true) {A A' : XA} {F F' : Nat → Int32} {r : Option Value} {post : Option Value → XW → Prop} (hp : post (r.map (xrn ps)) (dn (apu ps A' A) (fpu fm F' F) 0 D')) : (fun (r : Option Value) (wc' : XW) => match Nat.beq wc'.length ps.length with
  | true => post (r.map (xrn ps)) (xputs (dn A F 0 D) ps (wc'.map (xre ps)))
  | false => False) r (dn A' F' 0 Dc) := by
  have hl : (dn A' F' 0 Dc).length = ps.length := by rw [dn_len, cks_len (bnd (bnd h).2).1]
  show (match Nat.beq (dn A' F' 0 Dc).length ps.length with
    | true => post (r.map (xrn ps)) (xputs (dn A F 0 D) ps ((dn A' F' 0 Dc).map (xre ps)))
    | false => False)
  have e : xputs (dn A F 0 D) ps ((dn A' F' 0 Dc).map (xre ps)) = xputs (dn A F 0 D') ps ((dn A' F' 0 Dc).map (xre ps)) := xputs_ag (by rw [dn_len, dn_len, dag_len hd]) (by rw [List.length_map, hl]) (bnd h).1 (fun k hk => by rw [dn_get, dn_get, dag_at hd (by rw [Nat.zero_add]; exact plk_no hk)])
  rw [show Nat.beq (dn A' F' 0 Dc).length ps.length = true by rw [hl]; exact Nat.beq_refl _, e, cq_up h]
  exact hp
theorem ckC1 {s t u : Bool} : cq (CWD s t u) CHD CP1 CF = true := by
  cases s <;> cases t <;> cases u <;> decide +kernel
def sX1_has_W : XS := fun as w post => ∃ (s t u : Bool) (A : XA) (F : Nat → Int32) (x : Int32) (k : Nat), as = [.ref 1, .int x] ∧ w = CW s t u A F ∧ F 12 = nI k ∧ k ≤ 8 ∧ (∀ i, i < k → x = nI i → post (some (.int 1)) (CW s t u A F)) ∧ ((∀ i, i < k → x ≠ nI i) → post (some (.int 0)) (CW s t u A F))
set_option maxRecDepth 10000 in
set_option maxHeartbeats 1000000 in
theorem mX1_has_W (d : Nat) (hd : 0 ≤ d) : xCT d yX1_has cX1_has 2 (some .boolean) sX1_has_W := by
  refine xCT_in (mX1_has d hd) ?_
  rintro as w post ⟨s, t, u, A, F, x, k, rfl, rfl, hk, hk8, h1, h2⟩
  refine ⟨CP1, [.ref 0, .int x], CH (adn CP1 A) (fdn CF F), rfl, cq_dn (ckC1 (s := s) (t := t) (u := u)) A F, rfl, adn CP1 A, fdn CF F, x, k, rfl, rfl, hk, hk8, fun i hi e => ?_, fun e => ?_⟩
  · exact cq_id (A := A) (F := F) (ckC1 (s := s) (t := t) (u := u)) fckCF (h1 i hi e)
  · exact cq_id (A := A) (F := F) (ckC1 (s := s) (t := t) (u := u)) fckCF (h2 e)
def sX1_wishing_W : XS := fun as w post => ∃ (s t u : Bool) (A : XA) (F : Nat → Int32) (k : Nat), as = [.ref 1] ∧ w = CW s t u A F ∧ F 12 = nI k ∧ k ≤ 8 ∧ post (some (.int (nI (cntP (fun i => 0 ≤ A 5 i) k)))) (CW s t u A F)
set_option maxRecDepth 10000 in
set_option maxHeartbeats 1000000 in
theorem mX1_wishing_W (d : Nat) (hd : 0 ≤ d) : xCT d yX1_wishing cX1_wishing 3 (some .int) sX1_wishing_W := by
  refine xCT_in (mX1_wishing d hd) ?_
  rintro as w post ⟨s, t, u, A, F, k, rfl, rfl, hk, hk8, h1⟩
  refine ⟨CP1, [.ref 0], CH (adn CP1 A) (fdn CF F), rfl, cq_dn (ckC1 (s := s) (t := t) (u := u)) A F, rfl, adn CP1 A, fdn CF F, k, rfl, rfl, hk, hk8, ?_⟩
  exact cq_id (A := A) (F := F) (ckC1 (s := s) (t := t) (u := u)) fckCF h1
def sX1_countedRound_W : XS := fun as w post => ∃ (s t u : Bool) (A : XA) (F : Nat → Int32) (v : Int64) (n : Nat), as = [.ref 1, .long v] ∧ w = CW s t u A F ∧ F 11 = nI n ∧ 2 ≤ n ∧ n ≤ 12 ∧ ∀ x, x = crd (nI n) v → post (some (.int x)) (CW s t u A F)
set_option maxRecDepth 10000 in
set_option maxHeartbeats 1000000 in
theorem mX1_countedRound_W (d : Nat) (hd : 0 ≤ d) : xCT d yX1_countedRound cX1_countedRound 4 (some .int) sX1_countedRound_W := by
  refine xCT_in (mX1_countedRound d hd) ?_
  rintro as w post ⟨s, t, u, A, F, v, n, rfl, rfl, hn, hn2, hn12, h1⟩
  refine ⟨CP1, [.ref 0, .long v], CH (adn CP1 A) (fdn CF F), rfl, cq_dn (ckC1 (s := s) (t := t) (u := u)) A F, rfl, adn CP1 A, fdn CF F, v, n, rfl, rfl, hn, hn2, hn12, ?_⟩
  exact cq_id (A := A) (F := F) (ckC1 (s := s) (t := t) (u := u)) fckCF (h1 _ rfl)
def sX1_stateOf_W : XS := fun as w post => ∃ (s t u : Bool) (A : XA) (F : Nat → Int32) (k : Nat), as = [.ref 1, .ref 4] ∧ w = CW s t u A F ∧ F 12 = nI k ∧ k ≤ 8 ∧ ∀ v, v = numF (F 11) (A 4) k 0 → post (some (.int v)) (CW s t u A F)
set_option maxRecDepth 10000 in
set_option maxHeartbeats 1000000 in
theorem mX1_stateOf_W (d : Nat) (hd : 0 ≤ d) : xCT d yX1_stateOf cX1_stateOf 4 (some .int) sX1_stateOf_W := by
  refine xCT_in (mX1_stateOf d hd) ?_
  rintro as w post ⟨s, t, u, A, F, k, rfl, rfl, hk, hk8, h1⟩
  refine ⟨CP1, [.ref 0, .ref 3], CH (adn CP1 A) (fdn CF F), rfl, cq_dn (ckC1 (s := s) (t := t) (u := u)) A F, rfl, adn CP1 A, fdn CF F, A 4, 3, k, rfl, Or.inl ⟨rfl, rfl, rfl⟩, hk, hk8, ?_⟩
  exact cq_id (A := A) (F := F) (ckC1 (s := s) (t := t) (u := u)) fckCF (h1 _ rfl)
def sX1_sumOf_W : XS := fun as w post => ∃ (s t u : Bool) (A : XA) (F : Nat → Int32) (D : Nat → Int32) (kind m l y k : Int32), as = [.ref 1, .int kind, .int m, .int l, .int y, .int k] ∧ w = CW s t u A F ∧ CR D (adn CP1 A) F ∧ TXO D 0 ∧ ∀ A' v, v = vraw D kind m l y k → sm [13, 14] A' A → post (some (.long v)) (CW s t u A' F)
set_option maxRecDepth 10000 in
set_option maxHeartbeats 1000000 in
theorem mX1_sumOf_W (d : Nat) (hd : 2 ≤ d) : xCT d yX1_sumOf cX1_sumOf 7 (some .long) sX1_sumOf_W := by
  refine xCT_in (mX1_sumOf d hd) ?_
  rintro as w post ⟨s, t, u, A, F, D, kind, m, l, y, k, rfl, rfl, hC, hT, h⟩
  refine ⟨CP1, [.ref 0, .int kind, .int m, .int l, .int y, .int k], CH (adn CP1 A) (fdn CF F), rfl, cq_dn (ckC1 (s := s) (t := t) (u := u)) A F, rfl, adn CP1 A, fdn CF F, tps D 0, kind, m, l, y, k, rfl, rfl, hC.2.2.2.2.2.2.2.2.2.1, fun A2 hA2 => ?_⟩
  refine cq_a (A := A) (F := F) (A' := A2) (ckC1 (s := s) (t := t) (u := u)) fckCF ?_
  exact h (apu CP1 A2 A) _ (by rw [vraw_vrw, adV_D hT]) (sm_up (ps := CP1) (l := [12, 13]) (fun p hp => hA2 p (fun q => by rw [q] at hp; cases hp) (fun q => by rw [q] at hp; cases hp)))
def sX1_worthOf_W : XS := fun as w post => ∃ (s t u : Bool) (A : XA) (F : Nat → Int32) (D : Nat → Int32) (a b : Int32), as = [.ref 1, .int a, .int b] ∧ w = CW s t u A F ∧ CR D (adn CP1 A) F ∧ TXO D 1 ∧ ∀ A' v, v = worthV D a b → sm [17, 18] A' A → post (some (.int v)) (CW s t u A' F)
set_option maxRecDepth 10000 in
set_option maxHeartbeats 1000000 in
theorem mX1_worthOf_W (d : Nat) (hd : 2 ≤ d) : xCT d yX1_worthOf cX1_worthOf 4 (some .int) sX1_worthOf_W := by
  refine xCT_in (mX1_worthOf d hd) ?_
  rintro as w post ⟨s, t, u, A, F, D, a, b, rfl, rfl, hC, hT, h⟩
  refine ⟨CP1, [.ref 0, .int a, .int b], CH (adn CP1 A) (fdn CF F), rfl, cq_dn (ckC1 (s := s) (t := t) (u := u)) A F, rfl, adn CP1 A, fdn CF F, tps D 1, a, b, rfl, rfl, hC.2.2.2.2.2.2.2.2.2.2, fun A2 hA2 => ?_⟩
  refine cq_a (A := A) (F := F) (A' := A2) (ckC1 (s := s) (t := t) (u := u)) fckCF ?_
  exact h (apu CP1 A2 A) _ (wrV_D hT a b) (sm_up (ps := CP1) (l := [16, 17]) (fun p hp => hA2 p (fun q => by rw [q] at hp; cases hp) (fun q => by rw [q] at hp; cases hp)))
def sX1_hearAsInRing_W : XS := fun as w post => ∃ (s t u : Bool) (A : XA) (F : Nat → Int32) (k : Nat), as = [.ref 1] ∧ w = CW s t u A F ∧ F 12 = nI k ∧ k ≤ 8 ∧ ∀ A', sm [6, 7] A' A → (∀ i, i < k → A' 6 i = cif (A 8 i = 0) (nI ((i + k - 1) % k)) (A 6 i)) → (∀ i, i < k → A' 7 i = cif (A 8 i = 0) (nI ((i + 2 * k - 2) % k)) (A 7 i)) → post none (CW s t u A' F)
set_option maxRecDepth 10000 in
set_option maxHeartbeats 1000000 in
theorem mX1_hearAsInRing_W (d : Nat) (hd : 0 ≤ d) : xCT d yX1_hearAsInRing cX1_hearAsInRing 2 none sX1_hearAsInRing_W := by
  refine xCT_in (mX1_hearAsInRing d hd) ?_
  rintro as w post ⟨s, t, u, A, F, k, rfl, rfl, hk, hk8, h⟩
  refine ⟨CP1, [.ref 0], CH (adn CP1 A) (fdn CF F), rfl, cq_dn (ckC1 (s := s) (t := t) (u := u)) A F, rfl, adn CP1 A, fdn CF F, k, rfl, rfl, hk, hk8, fun A2 hA2 h5 h6 => ?_⟩
  refine cq_a (A := A) (F := F) (A' := A2) (ckC1 (s := s) (t := t) (u := u)) fckCF ?_
  exact h (apu CP1 A2 A) (sm_up (ps := CP1) hA2) h5 h6
theorem fpuC {F : Nat → Int32} {q : Nat} {x : Int32} (hq : CF.all (fun p => Nat.beq p.1 p.2) = true) (hm : flk CF q = some q) : fpu CF (fset (fdn CF F) q x) F = fset F q x := by
  funext p
  by_cases g : p = q
  · subst g
    have e : fset F p x p = x := by
      unfold fset
      rw [Nat.beq_refl]
      rfl
    rw [e]
    unfold fpu
    cases hr : rlk CF p with
    | none =>
      exfalso
      have : ∀ {fm : List (Nat × Nat)}, fm.all (fun p => Nat.beq p.1 p.2) = true → flk fm p = some p → rlk fm p = none → False := by
        intro fm
        induction fm with
        | nil => exact fun _ h _ => by cases h
        | cons a r ih =>
          obtain ⟨a1, a2⟩ := a
          intro h1 h2 h3
          obtain ⟨h4, h5⟩ := bnd h1
          have e12 := Nat.eq_of_beq_eq_true h4
          have e12 : a1 = a2 := e12
          subst e12
          unfold flk at h2
          unfold rlk at h3
          cases hb : Nat.beq a1 p with
          | true => rw [hb] at h3; cases h3
          | false =>
            rw [hb] at h2 h3
            exact ih h5 h2 h3
      exact this hq hm hr
    | some a =>
      have hmem := rlk_mem hr
      have := List.all_eq_true.mp hq (a, p) hmem
      have e2 : a = p := Nat.eq_of_beq_eq_true this
      subst e2
      show fset (fdn CF F) a x a = x
      unfold fset
      rw [Nat.beq_refl]
      rfl
  · rw [fsN g]
    unfold fpu
    cases hr : rlk CF p with
    | none => rfl
    | some a =>
      have hmem := rlk_mem hr
      have := List.all_eq_true.mp hq (a, p) hmem
      have e2 : a = p := Nat.eq_of_beq_eq_true this
      subst e2
      show fset (fdn CF F) q x a = F a
      rw [fsN g]
      have hf := List.all_eq_true.mp fckCF (a, a) hmem
      have hf : (match flk CF a with
        | some b => Nat.beq b a
        | none => false) = true := hf
      show F ((flk CF a).getD 0) = F a
      cases hh : flk CF a with
      | none => rw [hh] at hf; cases hf
      | some b =>
        rw [hh] at hf
        show F b = F a
        rw [Nat.eq_of_beq_eq_true hf]
def sX1_join_W : XS := fun as w post => ∃ (s t u : Bool) (A : XA) (F : Nat → Int32) (k : Nat) (a b : Int32), as = [.ref 1, .int a, .int b] ∧ w = CW s t u A F ∧ F 12 = nI k ∧ k < 8 ∧ ∀ A', sm [2, 3, 4, 5, 6, 7, 8] A' A → A' 2 = upd (A 2) k a → A' 3 = upd (A 3) k b → A' 4 = upd (A 4) k 0 → A' 5 = upd (A 5) k (-1) → A' 8 = upd (A 8) k 0 → (∀ i, i < k + 1 → A' 6 i = cif (A' 8 i = 0) (nI ((i + (k + 1) - 1) % (k + 1))) (A 6 i)) → (∀ i, i < k + 1 → A' 7 i = cif (A' 8 i = 0) (nI ((i + 2 * (k + 1) - 2) % (k + 1))) (A 7 i)) → post (some (.int (nI k))) (CW s t u A' (fset F 12 (nI (k + 1))))
set_option maxRecDepth 10000 in
set_option maxHeartbeats 1000000 in
theorem mX1_join_W (d : Nat) (hd : 1 ≤ d) : xCT d yX1_join cX1_join 4 (some .int) sX1_join_W := by
  refine xCT_in (mX1_join d hd) ?_
  rintro as w post ⟨s, t, u, A, F, k, a, b, rfl, rfl, hk, hk8, h⟩
  refine ⟨CP1, [.ref 0, .int a, .int b], CH (adn CP1 A) (fdn CF F), rfl, cq_dn (ckC1 (s := s) (t := t) (u := u)) A F, rfl, adn CP1 A, fdn CF F, k, a, b, rfl, rfl, hk, hk8, fun A2 F2 hA2 h1 h2 h3 h4 h7 h5 h6 hF => ?_⟩
  refine cq_go (A := A) (F := F) (A' := A2) (F' := F2) (ckC1 (s := s) (t := t) (u := u)) ?_
  rw [hF, fpuC (by decide) (by decide)]
  exact h (apu CP1 A2 A) (sm_up (ps := CP1) hA2) h1 h2 h3 h4 h7 h5 h6
def sX1_slip_W : XS := fun as w post => ∃ (s t u : Bool) (A : XA) (F : Nat → Int32) (n k : Nat) (p : Int32), as = [.ref 1, .int p] ∧ w = CW s t u A F ∧ F 11 = nI n ∧ 2 ≤ n ∧ n ≤ 12 ∧ F 12 = nI k ∧ 0 < k ∧ k ≤ 8 ∧ (∀ i, i < k → bd (A 4 i) n) ∧ ∀ A', sm [4] A' A → A' 4 = cif (rm (drO (dr1 (dr1 (F 14)))) 100 < p) (upd (A 4) (sx k (F 14)) (rm (A 4 (sx k (F 14)) + 1) (nI n))) (A 4) → post none (CW s t u A' (fset F 14 (dr1 (dr1 (F 14)))))
set_option maxRecDepth 10000 in
set_option maxHeartbeats 1000000 in
theorem mX1_slip_W (d : Nat) (hd : 1 ≤ d) : xCT d yX1_slip cX1_slip 3 none sX1_slip_W := by
  refine xCT_in (mX1_slip d hd) ?_
  rintro as w post ⟨s, t, u, A, F, n, k, p, rfl, rfl, hn, hn2, hn12, hk, hk0, hk8, hb, h⟩
  refine ⟨CP1, [.ref 0, .int p], CH (adn CP1 A) (fdn CF F), rfl, cq_dn (ckC1 (s := s) (t := t) (u := u)) A F, rfl, adn CP1 A, fdn CF F, n, k, p, rfl, rfl, hn, hn2, hn12, hk, hk0, hk8, hb, fun A2 hA2 h3 => ?_⟩
  refine cq_go (A := A) (F := F) (A' := A2) (F' := fset (fdn CF F) 14 (dr1 (dr1 (fdn CF F 14)))) (ckC1 (s := s) (t := t) (u := u)) ?_
  rw [fpuC (by decide) (by decide)]
  exact h (apu CP1 A2 A) (sm_up (ps := CP1) hA2) h3
