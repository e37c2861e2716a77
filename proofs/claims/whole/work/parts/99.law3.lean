/-! ===== the law: its start, its loop, its end ===== -/
theorem j1 {j : Nat} (h1 : j ≠ 1) (h3 : j ≠ 3) : jA 1 j = 0 := by
  have e1 : (Int32.ofInt 1).toNatClampNeg = 1 := by decide +kernel
  have e3 : (Int32.ofInt 3).toNatClampNeg = 3 := by decide +kernel
  show upd (upd (fun _ => 0) (Int32.ofInt 1).toNatClampNeg (Int8.ofInt 7).toInt32) (Int32.ofInt 3).toNatClampNeg (Int32.ofInt 1) j = 0
  rw [e1, e3, pk_un h3, pk_un h1]
theorem j11 : jA 1 1 = nI 7 := by decide +kernel
theorem j12 : jA 1 2 = nI 0 := j1 (by decide) (by decide)
theorem CI0 : CI jA jF 7 0 := ⟨⟨j11, by decide, by decide, j12, by decide, fun i hi => absurd hi (Nat.not_lt_zero i), ⟨0, by decide, j1 (by decide) (by decide)⟩, ⟨0, by decide, j1 (by decide) (by decide)⟩, ⟨0, by decide, j1 (by decide) (by decide)⟩, ⟨0, by decide, j1 (by decide) (by decide)⟩, ⟨0, by decide, j1 (by decide) (by decide)⟩, fun j hj => ⟨0, by decide, j1 (by omega) (by omega)⟩, fun j hj => ⟨0, by decide, j1 (by omega) (by omega)⟩⟩, Or.inl (j1 (by decide) (by decide)), Or.inl (j1 (by decide) (by decide)), fun i hi => ⟨0, by decide, rfl⟩, ⟨0, by decide, rfl⟩, Or.inl rfl⟩
theorem tps0 (u : Nat) : tps (jA 1) u = [] := cif_t (j1 (by omega) (by omega))
theorem LH0 : LH (fun _ => 0) (Int32.ofInt 0) [] := ⟨by decide +kernel, by decide, fun i h => absurd h (Nat.not_lt_zero i), fun t h => absurd h List.not_mem_nil, Or.inl rfl⟩
theorem z12 {i : Nat} : ¬ i < (jA 1 2).toNatClampNeg := by
  rw [j12, cl (by decide)]
  exact Nat.not_lt_zero i
theorem z14 {i : Nat} : ¬ i < (jA 1 4).toNatClampNeg := by
  rw [show jA 1 4 = nI 0 from j1 (by decide) (by decide), cl (by decide)]
  exact Nat.not_lt_zero i
theorem z15 {i : Nat} : ¬ i < (jA 1 5).toNatClampNeg := by
  rw [show jA 1 5 = nI 0 from j1 (by decide) (by decide), cl (by decide)]
  exact Nat.not_lt_zero i
theorem Rel0 : Rel jA jF iA iF := ⟨⟨by decide +kernel, by decide +kernel, by decide +kernel, by decide +kernel, by decide +kernel, by decide +kernel, fun i hi => absurd hi z12, fun j hj => absurd hj z14, fun j hj => absurd hj z15, by rw [tps0]; exact LH0, by rw [tps0]; exact LH0⟩, Or.inl rfl, by decide +kernel, fun j _ _ => rfl, fun h _ => ⟨rfl, rfl⟩, fun h i _ _ => rfl, ⟨rfl, by decide +kernel⟩, sb_fit0, sb_fit0⟩
theorem Aux0 : Aux (jA 1) iA iF 0 := ⟨fun i l s hi => absurd hi z12, by decide +kernel, fun q _ => ⟨0, Nat.le_refl _, rfl⟩, by rw [j12, cl (by decide)]; decide⟩
theorem LI0 : LI 0 (LWD false false false iA iF jA jF) := ⟨false, false, false, iA, iF, jA, jF, 0, 7, 0, rfl, CI0, Rel0, Aux0, Nat.le_refl _⟩
theorem LI_up {a b : Nat} (h : a ≤ b) {w : XW} (hw : LI a w) : LI b w := by
  obtain ⟨s, t, u, A, F, B, G, c, n, k, e, h1, h2, h3, h4⟩ := hw
  exact ⟨s, t, u, A, F, B, G, c, n, k, e, h1, h2, h3, by omega⟩
theorem L6 {i L : Nat} (hL : L ≤ 384) (hi : i ≤ L) (h : ¬ (nI L - nI 6 < nI i)) : i + 6 ≤ L := by
  rw [fa_lt, pk_sub_toInt (by omega) (by decide), nI_toInt (by omega)] at h
  omega
def LLP (L : Nat) (n pc : Nat) (ls : XL) (st : List Value) (w : XW) : Prop := ∃ i r, st = [] ∧ ls = LLS (nI i) ∧ n = 3 * (L - i) + r ∧ i ≤ L ∧ ((pc = 18 ∧ r = 2 ∧ LI (100 * i) w) ∨ (pc ≠ 18 ∧ pc ≠ 1456 ∧ r = 1 ∧ i + 6 ≤ L ∧ LI (100 * i) w) ∨ (pc = 1456 ∧ r = 0 ∧ i + 6 ≤ L ∧ LI (100 * i + 600) w))
theorem LLP_h {L n : Nat} {ls : XL} {st : List Value} {w : XW} (h : LLP L n 18 ls st w) : ∃ i, st = [] ∧ ls = LLS (nI i) ∧ n = 3 * (L - i) + 2 ∧ i ≤ L ∧ LI (100 * i) w := by
  obtain ⟨i, r, h1, h2, h3, h4, ⟨-, rfl, h6⟩ | ⟨h5, -⟩ | ⟨h5, -⟩⟩ := h
  · exact ⟨i, h1, h2, h3, h4, h6⟩
  · exact absurd rfl h5
  · exact absurd h5 (by decide)
theorem LLP_c {L n pc : Nat} {ls : XL} {st : List Value} {w : XW} (h : LLP L n pc ls st w) (g1 : pc ≠ 18) (g2 : pc ≠ 1456) : ∃ i, st = [] ∧ ls = LLS (nI i) ∧ n = 3 * (L - i) + 1 ∧ i + 6 ≤ L ∧ LI (100 * i) w := by
  obtain ⟨i, r, h1, h2, h3, h4, ⟨h5, -⟩ | ⟨-, -, rfl, h6, h7⟩ | ⟨h5, -⟩⟩ := h
  · exact absurd h5 g1
  · exact ⟨i, h1, h2, h3, h6, h7⟩
  · exact absurd h5 g2
theorem LLP_e {L n : Nat} {ls : XL} {st : List Value} {w : XW} (h : LLP L n 1456 ls st w) : ∃ i, st = [] ∧ ls = LLS (nI i) ∧ n = 3 * (L - i) + 0 ∧ i + 6 ≤ L ∧ LI (100 * i + 600) w := by
  obtain ⟨i, r, h1, h2, h3, h4, ⟨h5, -⟩ | ⟨-, h5, -⟩ | ⟨-, rfl, h6, h7⟩⟩ := h
  · exact absurd h5 (by decide)
  · exact absurd rfl h5
  · exact ⟨i, h1, h2, h3, h6, h7⟩
set_option maxRecDepth 20000 in
set_option maxHeartbeats 1000000 in
theorem L_head {L : Nat} {xs : Nat → Int32} {Qp : Option Value → XW → Prop} {K : Nat → XL → List Value → XW → Prop} {i : Nat} {w : XW} (hi : i ≤ L) (hL : L ≤ 384) (hQ : Qp (some (.int 1)) w) (hK : ∀ pc, i + 6 ≤ L → pc ≠ 18 → pc ≠ 1456 → K pc (LLS (nI i)) [] w) (hE : i + 6 ≤ L → K 1456 (LLS (nI i)) [] w) : xw 4 (some .boolean) L xs tL (fun _ => none) nL9 g0 cL Qp cuL K 80 18 (LLS (nI i)) [] w := by
  refine And.intro (fun _ => ⟨rfl, hQ⟩) (fun h9 => ?_)
  have h6 : i + 6 ≤ L := L6 hL hi h9
  have v0 : vp_in (nI i) L := vp_in_nI (by omega) (by omega)
  exact And.intro v0 (And.intro ⟨(fun _ => hK 212 h6 (by decide) (by decide)), (fun _ => hK 235 h6 (by decide) (by decide)), (fun _ => hK 268 h6 (by decide) (by decide)), (fun _ => hK 301 h6 (by decide) (by decide)), (fun _ => hK 344 h6 (by decide) (by decide)), (fun _ => hK 377 h6 (by decide) (by decide)), (fun _ => hK 420 h6 (by decide) (by decide)), (fun _ => hK 443 h6 (by decide) (by decide)), (fun _ => hK 486 h6 (by decide) (by decide)), (fun _ => hK 509 h6 (by decide) (by decide)), (fun _ => hK 572 h6 (by decide) (by decide)), (fun _ => hK 595 h6 (by decide) (by decide)), (fun _ => hK 658 h6 (by decide) (by decide)), (fun _ => hK 681 h6 (by decide) (by decide)), (fun _ => hK 714 h6 (by decide) (by decide)), (fun _ => hK 747 h6 (by decide) (by decide)), (fun _ => hK 770 h6 (by decide) (by decide)), (fun _ => hK 784 h6 (by decide) (by decide)), (fun _ => hK 807 h6 (by decide) (by decide)), (fun _ => hK 840 h6 (by decide) (by decide)), (fun _ => hK 863 h6 (by decide) (by decide)), (fun _ => hK 886 h6 (by decide) (by decide)), (fun _ => hK 899 h6 (by decide) (by decide)), (fun _ => hK 922 h6 (by decide) (by decide)), (fun _ => hK 945 h6 (by decide) (by decide)), (fun _ => hK 978 h6 (by decide) (by decide)), (fun _ => hK 1021 h6 (by decide) (by decide)), (fun _ => hK 1054 h6 (by decide) (by decide)), (fun _ => hK 1077 h6 (by decide) (by decide)), (fun _ => hK 1100 h6 (by decide) (by decide)), (fun _ => hK 1123 h6 (by decide) (by decide)), (fun _ => hK 1166 h6 (by decide) (by decide)), (fun _ => hK 1189 h6 (by decide) (by decide)), (fun _ => hK 1232 h6 (by decide) (by decide)), (fun _ => hK 1275 h6 (by decide) (by decide)), (fun _ => hK 1338 h6 (by decide) (by decide)), (fun _ => hK 1351 h6 (by decide) (by decide)), (fun _ => hK 1364 h6 (by decide) (by decide)), (fun _ => hK 1387 h6 (by decide) (by decide)), (fun _ => hK 1410 h6 (by decide) (by decide)), (fun _ => hK 1433 h6 (by decide) (by decide)), trivial⟩ (fun _ => hE h6))
set_option maxRecDepth 20000 in
theorem L_inc {L : Nat} {xs : Nat → Int32} {Qp : Option Value → XW → Prop} {K : Nat → XL → List Value → XW → Prop} {i : Nat} {w : XW} (hK : K 18 (LLS (nI i + Int32.ofInt 6)) [] w) : xw 4 (some .boolean) L xs tL (fun _ => none) nL9 g0 cL Qp cuL K 80 1456 (LLS (nI i)) [] w := hK
theorem nI6 (i : Nat) : nI i + Int32.ofInt 6 = nI (i + 6) := by
  rw [show Int32.ofInt 6 = nI 6 from rfl, nI_add]
theorem L_body {L : Nat} {xs : Nat → Int32} (hL : L ≤ 384) : ∀ n pc m9 ls st w, cuL pc = some m9 → LLP L n pc ls st w → xw 4 (some .boolean) L xs tL (fun _ => none) nL9 g0 cL (fun r _ => r = some (.int 1)) cuL (fun pc ls st w => ∃ n', n' < n ∧ LLP L n' pc ls st w) 80 pc ls st w := by
  intro n pc m9 ls st w hc hP
  have h2 := xlk_mem hc
  simp only [List.mem_cons, List.not_mem_nil, or_false, Prod.mk.injEq] at h2
  rcases h2 with ⟨rfl, rfl⟩ | ⟨rfl, rfl⟩ | ⟨rfl, rfl⟩ | ⟨rfl, rfl⟩ | ⟨rfl, rfl⟩ | ⟨rfl, rfl⟩ | ⟨rfl, rfl⟩ | ⟨rfl, rfl⟩ | ⟨rfl, rfl⟩ | ⟨rfl, rfl⟩ | ⟨rfl, rfl⟩ | ⟨rfl, rfl⟩ | ⟨rfl, rfl⟩ | ⟨rfl, rfl⟩ | ⟨rfl, rfl⟩ | ⟨rfl, rfl⟩ | ⟨rfl, rfl⟩ | ⟨rfl, rfl⟩ | ⟨rfl, rfl⟩ | ⟨rfl, rfl⟩ | ⟨rfl, rfl⟩ | ⟨rfl, rfl⟩ | ⟨rfl, rfl⟩ | ⟨rfl, rfl⟩ | ⟨rfl, rfl⟩ | ⟨rfl, rfl⟩ | ⟨rfl, rfl⟩ | ⟨rfl, rfl⟩ | ⟨rfl, rfl⟩ | ⟨rfl, rfl⟩ | ⟨rfl, rfl⟩ | ⟨rfl, rfl⟩ | ⟨rfl, rfl⟩ | ⟨rfl, rfl⟩ | ⟨rfl, rfl⟩ | ⟨rfl, rfl⟩ | ⟨rfl, rfl⟩ | ⟨rfl, rfl⟩ | ⟨rfl, rfl⟩ | ⟨rfl, rfl⟩ | ⟨rfl, rfl⟩ | ⟨rfl, rfl⟩ | ⟨rfl, rfl⟩
  · obtain ⟨i, rfl, rfl, rfl, hi, h⟩ := LLP_h hP
    exact L_head hi hL rfl (fun pc h6 g1 g2 => ⟨3 * (L - i) + 1, by omega, i, 1, rfl, rfl, rfl, hi, Or.inr (Or.inl ⟨g1, g2, rfl, h6, h⟩)⟩) (fun h6 => ⟨3 * (L - i) + 0, by omega, i, 0, rfl, rfl, rfl, hi, Or.inr (Or.inr ⟨rfl, rfl, h6, LI_up (by omega) h⟩)⟩)
  · obtain ⟨i, rfl, rfl, rfl, hi, h⟩ := LLP_c hP (by decide) (by decide)
    exact Lc_notes hi hL h (fun w' h' => ⟨3 * (L - i) + 0, by omega, i, 0, rfl, rfl, rfl, by omega, Or.inr (Or.inr ⟨rfl, rfl, hi, h'⟩)⟩)
  · obtain ⟨i, rfl, rfl, rfl, hi, h⟩ := LLP_c hP (by decide) (by decide)
    exact Lc_singer hi hL h (fun w' h' => ⟨3 * (L - i) + 0, by omega, i, 0, rfl, rfl, rfl, by omega, Or.inr (Or.inr ⟨rfl, rfl, hi, h'⟩)⟩)
  · obtain ⟨i, rfl, rfl, rfl, hi, h⟩ := LLP_c hP (by decide) (by decide)
    exact Lc_ofSinger hi hL h (fun w' h' => ⟨3 * (L - i) + 0, by omega, i, 0, rfl, rfl, rfl, by omega, Or.inr (Or.inr ⟨rfl, rfl, hi, h'⟩)⟩)
  · obtain ⟨i, rfl, rfl, rfl, hi, h⟩ := LLP_c hP (by decide) (by decide)
    exact Lc_rule hi hL h (fun w' h' => ⟨3 * (L - i) + 0, by omega, i, 0, rfl, rfl, rfl, by omega, Or.inr (Or.inr ⟨rfl, rfl, hi, h'⟩)⟩)
  · obtain ⟨i, rfl, rfl, rfl, hi, h⟩ := LLP_c hP (by decide) (by decide)
    exact Lc_as hi hL h (fun w' h' => ⟨3 * (L - i) + 0, by omega, i, 0, rfl, rfl, rfl, by omega, Or.inr (Or.inr ⟨rfl, rfl, hi, h'⟩)⟩)
  · obtain ⟨i, rfl, rfl, rfl, hi, h⟩ := LLP_c hP (by decide) (by decide)
    exact Lc_net hi hL h (fun w' h' => ⟨3 * (L - i) + 0, by omega, i, 0, rfl, rfl, rfl, by omega, Or.inr (Or.inr ⟨rfl, rfl, hi, h'⟩)⟩)
  · obtain ⟨i, rfl, rfl, rfl, hi, h⟩ := LLP_c hP (by decide) (by decide)
    exact Lc_ring hi hL h (fun w' h' => ⟨3 * (L - i) + 0, by omega, i, 0, rfl, rfl, rfl, by omega, Or.inr (Or.inr ⟨rfl, rfl, hi, h'⟩)⟩)
  · obtain ⟨i, rfl, rfl, rfl, hi, h⟩ := LLP_c hP (by decide) (by decide)
    exact Lc_sing hi hL h (fun w' h' => ⟨3 * (L - i) + 0, by omega, i, 0, rfl, rfl, rfl, by omega, Or.inr (Or.inr ⟨rfl, rfl, hi, h'⟩)⟩)
  · obtain ⟨i, rfl, rfl, rfl, hi, h⟩ := LLP_c hP (by decide) (by decide)
    exact Lc_begin hi hL h (fun w' h' => ⟨3 * (L - i) + 0, by omega, i, 0, rfl, rfl, rfl, by omega, Or.inr (Or.inr ⟨rfl, rfl, hi, h'⟩)⟩)
  · obtain ⟨i, rfl, rfl, rfl, hi, h⟩ := LLP_c hP (by decide) (by decide)
    exact Lc_feed hi hL h (fun w' h' => ⟨3 * (L - i) + 0, by omega, i, 0, rfl, rfl, rfl, by omega, Or.inr (Or.inr ⟨rfl, rfl, hi, h'⟩)⟩)
  · obtain ⟨i, rfl, rfl, rfl, hi, h⟩ := LLP_c hP (by decide) (by decide)
    exact Lc_text hi hL h (fun w' h' => ⟨3 * (L - i) + 0, by omega, i, 0, rfl, rfl, rfl, by omega, Or.inr (Or.inr ⟨rfl, rfl, hi, h'⟩)⟩)
  · obtain ⟨i, rfl, rfl, rfl, hi, h⟩ := LLP_c hP (by decide) (by decide)
    exact Lc_law hi hL h (fun w' h' => ⟨3 * (L - i) + 0, by omega, i, 0, rfl, rfl, rfl, by omega, Or.inr (Or.inr ⟨rfl, rfl, hi, h'⟩)⟩)
  · obtain ⟨i, rfl, rfl, rfl, hi, h⟩ := LLP_c hP (by decide) (by decide)
    exact Lc_bars hi hL h (fun w' h' => ⟨3 * (L - i) + 0, by omega, i, 0, rfl, rfl, rfl, by omega, Or.inr (Or.inr ⟨rfl, rfl, hi, h'⟩)⟩)
  · obtain ⟨i, rfl, rfl, rfl, hi, h⟩ := LLP_c hP (by decide) (by decide)
    exact Lc_loose hi hL h (fun w' h' => ⟨3 * (L - i) + 0, by omega, i, 0, rfl, rfl, rfl, by omega, Or.inr (Or.inr ⟨rfl, rfl, hi, h'⟩)⟩)
  · obtain ⟨i, rfl, rfl, rfl, hi, h⟩ := LLP_c hP (by decide) (by decide)
    exact Lc_far hi hL h (fun w' h' => ⟨3 * (L - i) + 0, by omega, i, 0, rfl, rfl, rfl, by omega, Or.inr (Or.inr ⟨rfl, rfl, hi, h'⟩)⟩)
  · obtain ⟨i, rfl, rfl, rfl, hi, h⟩ := LLP_c hP (by decide) (by decide)
    exact Lc_worths hi hL h (fun w' h' => ⟨3 * (L - i) + 0, by omega, i, 0, rfl, rfl, rfl, by omega, Or.inr (Or.inr ⟨rfl, rfl, hi, h'⟩)⟩)
  · obtain ⟨i, rfl, rfl, rfl, hi, h⟩ := LLP_c hP (by decide) (by decide)
    exact Lc_state hi hL h (fun w' h' => ⟨3 * (L - i) + 0, by omega, i, 0, rfl, rfl, rfl, by omega, Or.inr (Or.inr ⟨rfl, rfl, hi, h'⟩)⟩)
  · obtain ⟨i, rfl, rfl, rfl, hi, h⟩ := LLP_c hP (by decide) (by decide)
    exact Lc_round hi hL h (fun w' h' => ⟨3 * (L - i) + 0, by omega, i, 0, rfl, rfl, rfl, by omega, Or.inr (Or.inr ⟨rfl, rfl, hi, h'⟩)⟩)
  · obtain ⟨i, rfl, rfl, rfl, hi, h⟩ := LLP_c hP (by decide) (by decide)
    exact Lc_beginnings hi hL h (fun w' h' => ⟨3 * (L - i) + 0, by omega, i, 0, rfl, rfl, rfl, by omega, Or.inr (Or.inr ⟨rfl, rfl, hi, h'⟩)⟩)
  · obtain ⟨i, rfl, rfl, rfl, hi, h⟩ := LLP_c hP (by decide) (by decide)
    exact Lc_best hi hL h (fun w' h' => ⟨3 * (L - i) + 0, by omega, i, 0, rfl, rfl, rfl, by omega, Or.inr (Or.inr ⟨rfl, rfl, hi, h'⟩)⟩)
  · obtain ⟨i, rfl, rfl, rfl, hi, h⟩ := LLP_c hP (by decide) (by decide)
    exact Lc_before hi hL h (fun w' h' => ⟨3 * (L - i) + 0, by omega, i, 0, rfl, rfl, rfl, by omega, Or.inr (Or.inr ⟨rfl, rfl, hi, h'⟩)⟩)
  · obtain ⟨i, rfl, rfl, rfl, hi, h⟩ := LLP_c hP (by decide) (by decide)
    exact Lc_never hi hL h (fun w' h' => ⟨3 * (L - i) + 0, by omega, i, 0, rfl, rfl, rfl, by omega, Or.inr (Or.inr ⟨rfl, rfl, hi, h'⟩)⟩)
  · obtain ⟨i, rfl, rfl, rfl, hi, h⟩ := LLP_c hP (by decide) (by decide)
    exact Lc_rings hi hL h (fun w' h' => ⟨3 * (L - i) + 0, by omega, i, 0, rfl, rfl, rfl, by omega, Or.inr (Or.inr ⟨rfl, rfl, hi, h'⟩)⟩)
  · obtain ⟨i, rfl, rfl, rfl, hi, h⟩ := LLP_c hP (by decide) (by decide)
    exact Lc_fewest hi hL h (fun w' h' => ⟨3 * (L - i) + 0, by omega, i, 0, rfl, rfl, rfl, by omega, Or.inr (Or.inr ⟨rfl, rfl, hi, h'⟩)⟩)
  · obtain ⟨i, rfl, rfl, rfl, hi, h⟩ := LLP_c hP (by decide) (by decide)
    exact Lc_made hi hL h (fun w' h' => ⟨3 * (L - i) + 0, by omega, i, 0, rfl, rfl, rfl, by omega, Or.inr (Or.inr ⟨rfl, rfl, hi, h'⟩)⟩)
  · obtain ⟨i, rfl, rfl, rfl, hi, h⟩ := LLP_c hP (by decide) (by decide)
    exact Lc_heard hi hL h (fun w' h' => ⟨3 * (L - i) + 0, by omega, i, 0, rfl, rfl, rfl, by omega, Or.inr (Or.inr ⟨rfl, rfl, hi, h'⟩)⟩)
  · obtain ⟨i, rfl, rfl, rfl, hi, h⟩ := LLP_c hP (by decide) (by decide)
    exact Lc_gone hi hL h (fun w' h' => ⟨3 * (L - i) + 0, by omega, i, 0, rfl, rfl, rfl, by omega, Or.inr (Or.inr ⟨rfl, rfl, hi, h'⟩)⟩)
  · obtain ⟨i, rfl, rfl, rfl, hi, h⟩ := LLP_c hP (by decide) (by decide)
    exact Lc_tune hi hL h (fun w' h' => ⟨3 * (L - i) + 0, by omega, i, 0, rfl, rfl, rfl, by omega, Or.inr (Or.inr ⟨rfl, rfl, hi, h'⟩)⟩)
  · obtain ⟨i, rfl, rfl, rfl, hi, h⟩ := LLP_c hP (by decide) (by decide)
    exact Lc_longer hi hL h (fun w' h' => ⟨3 * (L - i) + 0, by omega, i, 0, rfl, rfl, rfl, by omega, Or.inr (Or.inr ⟨rfl, rfl, hi, h'⟩)⟩)
  · obtain ⟨i, rfl, rfl, rfl, hi, h⟩ := LLP_c hP (by decide) (by decide)
    exact Lc_seed hi hL h (fun w' h' => ⟨3 * (L - i) + 0, by omega, i, 0, rfl, rfl, rfl, by omega, Or.inr (Or.inr ⟨rfl, rfl, hi, h'⟩)⟩)
  · obtain ⟨i, rfl, rfl, rfl, hi, h⟩ := LLP_c hP (by decide) (by decide)
    exact Lc_voice hi hL h (fun w' h' => ⟨3 * (L - i) + 0, by omega, i, 0, rfl, rfl, rfl, by omega, Or.inr (Or.inr ⟨rfl, rfl, hi, h'⟩)⟩)
  · obtain ⟨i, rfl, rfl, rfl, hi, h⟩ := LLP_c hP (by decide) (by decide)
    exact Lc_trace hi hL h (fun w' h' => ⟨3 * (L - i) + 0, by omega, i, 0, rfl, rfl, rfl, by omega, Or.inr (Or.inr ⟨rfl, rfl, hi, h'⟩)⟩)
  · obtain ⟨i, rfl, rfl, rfl, hi, h⟩ := LLP_c hP (by decide) (by decide)
    exact Lc_sheet hi hL h (fun w' h' => ⟨3 * (L - i) + 0, by omega, i, 0, rfl, rfl, rfl, by omega, Or.inr (Or.inr ⟨rfl, rfl, hi, h'⟩)⟩)
  · obtain ⟨i, rfl, rfl, rfl, hi, h⟩ := LLP_c hP (by decide) (by decide)
    exact Lc_put hi hL h (fun w' h' => ⟨3 * (L - i) + 0, by omega, i, 0, rfl, rfl, rfl, by omega, Or.inr (Or.inr ⟨rfl, rfl, hi, h'⟩)⟩)
  · obtain ⟨i, rfl, rfl, rfl, hi, h⟩ := LLP_c hP (by decide) (by decide)
    exact Lc_move hi hL h (fun w' h' => ⟨3 * (L - i) + 0, by omega, i, 0, rfl, rfl, rfl, by omega, Or.inr (Or.inr ⟨rfl, rfl, hi, h'⟩)⟩)
  · obtain ⟨i, rfl, rfl, rfl, hi, h⟩ := LLP_c hP (by decide) (by decide)
    exact Lc_image hi hL h (fun w' h' => ⟨3 * (L - i) + 0, by omega, i, 0, rfl, rfl, rfl, by omega, Or.inr (Or.inr ⟨rfl, rfl, hi, h'⟩)⟩)
  · obtain ⟨i, rfl, rfl, rfl, hi, h⟩ := LLP_c hP (by decide) (by decide)
    exact Lc_restore hi hL h (fun w' h' => ⟨3 * (L - i) + 0, by omega, i, 0, rfl, rfl, rfl, by omega, Or.inr (Or.inr ⟨rfl, rfl, hi, h'⟩)⟩)
  · obtain ⟨i, rfl, rfl, rfl, hi, h⟩ := LLP_c hP (by decide) (by decide)
    exact Lc_tell hi hL h (fun w' h' => ⟨3 * (L - i) + 0, by omega, i, 0, rfl, rfl, rfl, by omega, Or.inr (Or.inr ⟨rfl, rfl, hi, h'⟩)⟩)
  · obtain ⟨i, rfl, rfl, rfl, hi, h⟩ := LLP_c hP (by decide) (by decide)
    exact Lc_check hi hL h (fun w' h' => ⟨3 * (L - i) + 0, by omega, i, 0, rfl, rfl, rfl, by omega, Or.inr (Or.inr ⟨rfl, rfl, hi, h'⟩)⟩)
  · obtain ⟨i, rfl, rfl, rfl, hi, h⟩ := LLP_c hP (by decide) (by decide)
    exact Lc_count hi hL h (fun w' h' => ⟨3 * (L - i) + 0, by omega, i, 0, rfl, rfl, rfl, by omega, Or.inr (Or.inr ⟨rfl, rfl, hi, h'⟩)⟩)
  · obtain ⟨i, rfl, rfl, rfl, hi, h⟩ := LLP_c hP (by decide) (by decide)
    exact Lc_told hi hL h (fun w' h' => ⟨3 * (L - i) + 0, by omega, i, 0, rfl, rfl, rfl, by omega, Or.inr (Or.inr ⟨rfl, rfl, hi, h'⟩)⟩)
  · obtain ⟨i, rfl, rfl, rfl, hi, h⟩ := LLP_e hP
    exact L_inc ⟨3 * (L - (i + 6)) + 2, by omega, i + 6, 2, rfl, congrArg LLS (nI6 i), rfl, hi, Or.inl ⟨rfl, rfl, LI_up (by omega) h⟩⟩
theorem xsv0 (v : Value) : xsv 0 v = v := by
  cases v <;> first | rfl | exact congrArg Value.ref (Nat.zero_add _)
theorem xse0 (e : va_E) : xse 0 e = e := by
  rcases e with ⟨t, M, x⟩ | ⟨ci, fs⟩
  · rcases x with f | f | f | f | g
    · rfl
    · rfl
    · rfl
    · rfl
    · have e9 : (fun i => (g i).map (0 + ·)) = g := funext fun i => by
        cases hg : g i with
        | none => rfl
        | some b => exact congrArg some (Nat.zero_add b)
      show Sum.inl (t, M, _) = Sum.inl (t, M, _)
      rw [e9]
  · show Sum.inr (ci, fs.map (xsv 0)) = Sum.inr (ci, fs)
    have e9 : fs.map (xsv 0) = fs.map id := List.map_congr_left (fun v _ => xsv0 v)
    rw [e9, List.map_id]
theorem xse0s (w : XW) : w.map (xse 0) = w := by
  have e9 : w.map (xse 0) = w.map id := List.map_congr_left (fun v _ => xse0 v)
  rw [e9, List.map_id]
theorem lw_mt {w : Cond} (j i : Nat) (h : decide ((lw_c j)[i]? = some w) = true) : w ∈ lw_tbl := lw_c_in j w (List.mem_of_getElem? (of_decide_eq_true h))
