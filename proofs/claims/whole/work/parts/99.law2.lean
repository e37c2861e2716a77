/-! ===== the law: its cases ===== -/
def cuL : Nat → Option Nat := xlk [(18, 4), (212, 4), (235, 4), (268, 4), (301, 4), (344, 4), (377, 4), (420, 4), (443, 4), (486, 4), (509, 4), (572, 4), (595, 4), (658, 4), (681, 4), (714, 4), (747, 4), (770, 4), (784, 4), (807, 4), (840, 4), (863, 4), (886, 4), (899, 4), (922, 4), (945, 4), (978, 4), (1021, 4), (1054, 4), (1077, 4), (1100, 4), (1123, 4), (1166, 4), (1189, 4), (1232, 4), (1275, 4), (1338, 4), (1351, 4), (1364, 4), (1387, 4), (1410, 4), (1433, 4), (1456, 4)]
abbrev LLS (x : Int32) : XL := [(0, .retAddr 2), (1, .ref 0), (2, .ref 83), (3, .int x)]
def LI (c0 : Nat) (w : XW) : Prop := ∃ (s t u : Bool) (A : XA) (F : Nat → Int32) (B : XA) (G : Nat → Int32) (c n k : Nat), w = LWD s t u A F B G ∧ CI B G n k ∧ Rel B G A F ∧ Aux (B 1) A F c ∧ c ≤ c0
theorem Lv {i L : Nat} (hi : i + 6 ≤ L) (hL : L ≤ 384) {x : Int32} (j : Nat) (hx : x = nI j) (hj : j < 6) : vp_in (nI i + x) L := by
  rw [hx, nI_add]
  exact vp_in_nI (by omega) (by omega)
theorem lcmp0 (x : Int64) : lg_cmp x x = 0 := by
  unfold lg_cmp
  split
  · next h =>
    have h : x < x := h
    rw [fa_lt64] at h
    omega
  · next h =>
    split
    · rfl
    · next h2 => exact absurd rfl h2
theorem Aux_per {A B : XA} {F G : Nat → Int32} {X : XA} {Y : Nat → Int32} {c : Nat} (hp : per A F B G) (h : Aux (A 1) X Y c) : Aux (B 1) X Y c := by
  rw [hp.1]
  exact h
set_option maxRecDepth 20000 in
set_option maxHeartbeats 1000000 in
theorem Lc_notes {L : Nat} {xs : Nat → Int32} {Qp : Option Value → XW → Prop} {K : Nat → XL → List Value → XW → Prop} {i : Nat} {w : XW} (hi : i + 6 ≤ L) (hL : L ≤ 384) (h : LI (100 * i) w) (hK : ∀ w', LI (100 * i + 600) w' → K 1456 (LLS (nI i)) [] w') : xw 4 (some .boolean) L xs tL (fun _ => none) nL9 g0 cL Qp cuL K 80 212 (LLS (nI i)) [] w := by
  obtain ⟨s, t, u, A, F, B, G, c, n, k, rfl, h1, h2, h3, h4⟩ := h
  have v1 : vp_in (nI i + Int32.ofInt 1) L := Lv hi hL 1 rfl (by decide)
  refine (And.intro v1 ⟨_, rfl, s, t, u, A, F, B, G, c, n, k, rfl, h1, h2, h3, by omega, fun s t u A9 F9 c9 h5 h6 h7 => ?_⟩)
  refine (And.intro v1 ⟨_, rfl, s, t, u, A9, F9, B, G, n, k, rfl, h1, fun B9 G9 hp => ?_⟩)
  exact And.intro (fun _ => hK _ ((i_notes h1 _).elim fun n9 h8 => h8.elim fun k9 h8 => ⟨s, t, u, A9, F9, B9, G9, c9, n9, k9, rfl, CI_per hp h8, Rel_per hp h6, Aux_per hp h7, by omega⟩)) (fun hne => (hne rfl).elim)
set_option maxRecDepth 20000 in
set_option maxHeartbeats 1000000 in
theorem Lc_singer {L : Nat} {xs : Nat → Int32} {Qp : Option Value → XW → Prop} {K : Nat → XL → List Value → XW → Prop} {i : Nat} {w : XW} (hi : i + 6 ≤ L) (hL : L ≤ 384) (h : LI (100 * i) w) (hK : ∀ w', LI (100 * i + 600) w' → K 1456 (LLS (nI i)) [] w') : xw 4 (some .boolean) L xs tL (fun _ => none) nL9 g0 cL Qp cuL K 80 235 (LLS (nI i)) [] w := by
  obtain ⟨s, t, u, A, F, B, G, c, n, k, rfl, h1, h2, h3, h4⟩ := h
  have v1 : vp_in (nI i + Int32.ofInt 1) L := Lv hi hL 1 rfl (by decide)
  have v2 : vp_in (nI i + Int32.ofInt 2) L := Lv hi hL 2 rfl (by decide)
  refine (And.intro v1 (And.intro v2 ⟨_, _, rfl, s, t, u, A, F, B, G, c, n, k, rfl, h1, h2, h3, by omega, fun s t u A9 F9 c9 h5 h6 h7 => ?_⟩))
  refine (And.intro v1 (And.intro v2 ⟨_, _, rfl, s, t, u, A9, F9, B, G, n, k, rfl, h1, fun B9 G9 hp => ?_⟩))
  exact And.intro (fun _ => hK _ ((i_singer h1 _ _).elim fun n9 h8 => h8.elim fun k9 h8 => ⟨s, t, u, A9, F9, B9, G9, c9, n9, k9, rfl, CI_per hp h8, Rel_per hp h6, Aux_per hp h7, by omega⟩)) (fun hne => (hne rfl).elim)
set_option maxRecDepth 20000 in
set_option maxHeartbeats 1000000 in
theorem Lc_ofSinger {L : Nat} {xs : Nat → Int32} {Qp : Option Value → XW → Prop} {K : Nat → XL → List Value → XW → Prop} {i : Nat} {w : XW} (hi : i + 6 ≤ L) (hL : L ≤ 384) (h : LI (100 * i) w) (hK : ∀ w', LI (100 * i + 600) w' → K 1456 (LLS (nI i)) [] w') : xw 4 (some .boolean) L xs tL (fun _ => none) nL9 g0 cL Qp cuL K 80 268 (LLS (nI i)) [] w := by
  obtain ⟨s, t, u, A, F, B, G, c, n, k, rfl, h1, h2, h3, h4⟩ := h
  have v1 : vp_in (nI i + Int32.ofInt 1) L := Lv hi hL 1 rfl (by decide)
  have v2 : vp_in (nI i + Int32.ofInt 2) L := Lv hi hL 2 rfl (by decide)
  refine (And.intro v1 (And.intro v2 ⟨_, _, rfl, s, t, u, A, F, B, G, c, n, k, rfl, h1, h2, h3, by omega, fun s t u A9 F9 c9 h5 h6 h7 => ?_⟩))
  refine (And.intro v1 (And.intro v2 ⟨_, _, rfl, s, t, u, A9, F9, B, G, n, k, rfl, h1, fun B9 G9 hp => ?_⟩))
  exact And.intro (fun _ => hK _ ((i_ofSinger h1 _ _).elim fun n9 h8 => h8.elim fun k9 h8 => ⟨s, t, u, A9, F9, B9, G9, c9, n9, k9, rfl, CI_per hp h8, Rel_per hp h6, Aux_per hp h7, by omega⟩)) (fun hne => (hne rfl).elim)
set_option maxRecDepth 20000 in
set_option maxHeartbeats 1000000 in
theorem Lc_rule {L : Nat} {xs : Nat → Int32} {Qp : Option Value → XW → Prop} {K : Nat → XL → List Value → XW → Prop} {i : Nat} {w : XW} (hi : i + 6 ≤ L) (hL : L ≤ 384) (h : LI (100 * i) w) (hK : ∀ w', LI (100 * i + 600) w' → K 1456 (LLS (nI i)) [] w') : xw 4 (some .boolean) L xs tL (fun _ => none) nL9 g0 cL Qp cuL K 80 301 (LLS (nI i)) [] w := by
  obtain ⟨s, t, u, A, F, B, G, c, n, k, rfl, h1, h2, h3, h4⟩ := h
  have v1 : vp_in (nI i + Int32.ofInt 1) L := Lv hi hL 1 rfl (by decide)
  have v2 : vp_in (nI i + Int32.ofInt 2) L := Lv hi hL 2 rfl (by decide)
  have v3 : vp_in (nI i + Int32.ofInt 3) L := Lv hi hL 3 rfl (by decide)
  refine (And.intro v1 (And.intro v2 (And.intro v3 ⟨_, _, _, rfl, s, t, u, A, F, B, G, c, n, k, rfl, h1, h2, h3, by omega, fun s t u A9 F9 c9 h5 h6 h7 => ?_⟩)))
  refine (And.intro v1 (And.intro v2 (And.intro v3 ⟨_, _, _, rfl, s, t, u, A9, F9, B, G, n, k, rfl, h1, fun B9 G9 hp => ?_⟩)))
  exact And.intro (fun _ => hK _ ((i_rule h1 _ _ _).elim fun n9 h8 => h8.elim fun k9 h8 => ⟨s, t, u, A9, F9, B9, G9, c9, n9, k9, rfl, CI_per hp h8, Rel_per hp h6, Aux_per hp h7, by omega⟩)) (fun hne => (hne rfl).elim)
set_option maxRecDepth 20000 in
set_option maxHeartbeats 1000000 in
theorem Lc_as {L : Nat} {xs : Nat → Int32} {Qp : Option Value → XW → Prop} {K : Nat → XL → List Value → XW → Prop} {i : Nat} {w : XW} (hi : i + 6 ≤ L) (hL : L ≤ 384) (h : LI (100 * i) w) (hK : ∀ w', LI (100 * i + 600) w' → K 1456 (LLS (nI i)) [] w') : xw 4 (some .boolean) L xs tL (fun _ => none) nL9 g0 cL Qp cuL K 80 344 (LLS (nI i)) [] w := by
  obtain ⟨s, t, u, A, F, B, G, c, n, k, rfl, h1, h2, h3, h4⟩ := h
  have v1 : vp_in (nI i + Int32.ofInt 1) L := Lv hi hL 1 rfl (by decide)
  have v2 : vp_in (nI i + Int32.ofInt 2) L := Lv hi hL 2 rfl (by decide)
  refine (And.intro v1 (And.intro v2 ⟨_, _, rfl, s, t, u, A, F, B, G, c, n, k, rfl, h1, h2, h3, by omega, fun s t u A9 F9 c9 h5 h6 h7 => ?_⟩))
  refine (And.intro v1 (And.intro v2 ⟨_, _, rfl, s, t, u, A9, F9, B, G, n, k, rfl, h1, fun B9 G9 hp => ?_⟩))
  exact And.intro (fun _ => hK _ ((i_as h1 _ _).elim fun n9 h8 => h8.elim fun k9 h8 => ⟨s, t, u, A9, F9, B9, G9, c9, n9, k9, rfl, CI_per hp h8, Rel_per hp h6, Aux_per hp h7, by omega⟩)) (fun hne => (hne rfl).elim)
set_option maxRecDepth 20000 in
set_option maxHeartbeats 1000000 in
theorem Lc_net {L : Nat} {xs : Nat → Int32} {Qp : Option Value → XW → Prop} {K : Nat → XL → List Value → XW → Prop} {i : Nat} {w : XW} (hi : i + 6 ≤ L) (hL : L ≤ 384) (h : LI (100 * i) w) (hK : ∀ w', LI (100 * i + 600) w' → K 1456 (LLS (nI i)) [] w') : xw 4 (some .boolean) L xs tL (fun _ => none) nL9 g0 cL Qp cuL K 80 377 (LLS (nI i)) [] w := by
  obtain ⟨s, t, u, A, F, B, G, c, n, k, rfl, h1, h2, h3, h4⟩ := h
  have v1 : vp_in (nI i + Int32.ofInt 1) L := Lv hi hL 1 rfl (by decide)
  have v2 : vp_in (nI i + Int32.ofInt 2) L := Lv hi hL 2 rfl (by decide)
  have v3 : vp_in (nI i + Int32.ofInt 3) L := Lv hi hL 3 rfl (by decide)
  refine (And.intro v1 (And.intro v2 (And.intro v3 ⟨_, _, _, rfl, s, t, u, A, F, B, G, c, n, k, rfl, h1, h2, h3, by omega, fun s t u A9 F9 c9 h5 h6 h7 => ?_⟩)))
  refine (And.intro v1 (And.intro v2 (And.intro v3 ⟨_, _, _, rfl, s, t, u, A9, F9, B, G, n, k, rfl, h1, fun B9 G9 hp => ?_⟩)))
  exact And.intro (fun _ => hK _ ((i_net h1 _ _ _).elim fun n9 h8 => h8.elim fun k9 h8 => ⟨s, t, u, A9, F9, B9, G9, c9, n9, k9, rfl, CI_per hp h8, Rel_per hp h6, Aux_per hp h7, by omega⟩)) (fun hne => (hne rfl).elim)
set_option maxRecDepth 20000 in
set_option maxHeartbeats 1000000 in
theorem Lc_ring {L : Nat} {xs : Nat → Int32} {Qp : Option Value → XW → Prop} {K : Nat → XL → List Value → XW → Prop} {i : Nat} {w : XW} (hi : i + 6 ≤ L) (hL : L ≤ 384) (h : LI (100 * i) w) (hK : ∀ w', LI (100 * i + 600) w' → K 1456 (LLS (nI i)) [] w') : xw 4 (some .boolean) L xs tL (fun _ => none) nL9 g0 cL Qp cuL K 80 420 (LLS (nI i)) [] w := by
  obtain ⟨s, t, u, A, F, B, G, c, n, k, rfl, h1, h2, h3, h4⟩ := h
  have v1 : vp_in (nI i + Int32.ofInt 1) L := Lv hi hL 1 rfl (by decide)
  refine (And.intro v1 ⟨_, rfl, s, t, u, A, F, B, G, c, n, k, rfl, h1, h2, h3, by omega, fun s t u A9 F9 c9 h5 h6 h7 => ?_⟩)
  refine (And.intro v1 ⟨_, rfl, s, t, u, A9, F9, B, G, n, k, rfl, h1, fun B9 G9 hp => ?_⟩)
  exact And.intro (fun _ => hK _ ((i_ring h1 _).elim fun n9 h8 => h8.elim fun k9 h8 => ⟨s, t, u, A9, F9, B9, G9, c9, n9, k9, rfl, CI_per hp h8, Rel_per hp h6, Aux_per hp h7, by omega⟩)) (fun hne => (hne rfl).elim)
set_option maxRecDepth 20000 in
set_option maxHeartbeats 1000000 in
theorem Lc_sing {L : Nat} {xs : Nat → Int32} {Qp : Option Value → XW → Prop} {K : Nat → XL → List Value → XW → Prop} {i : Nat} {w : XW} (hi : i + 6 ≤ L) (hL : L ≤ 384) (h : LI (100 * i) w) (hK : ∀ w', LI (100 * i + 600) w' → K 1456 (LLS (nI i)) [] w') : xw 4 (some .boolean) L xs tL (fun _ => none) nL9 g0 cL Qp cuL K 80 443 (LLS (nI i)) [] w := by
  obtain ⟨s, t, u, A, F, B, G, c, n, k, rfl, h1, h2, h3, h4⟩ := h
  have v1 : vp_in (nI i + Int32.ofInt 1) L := Lv hi hL 1 rfl (by decide)
  have v2 : vp_in (nI i + Int32.ofInt 2) L := Lv hi hL 2 rfl (by decide)
  have v3 : vp_in (nI i + Int32.ofInt 3) L := Lv hi hL 3 rfl (by decide)
  refine (And.intro v1 (And.intro v2 (And.intro v3 ⟨_, _, _, rfl, s, t, u, A, F, B, G, c, n, k, rfl, h1, h2, h3, by omega, fun s t u A9 F9 c9 h5 h6 h7 => ?_⟩)))
  refine (And.intro v1 (And.intro v2 (And.intro v3 ⟨_, _, _, rfl, s, t, u, A9, F9, B, G, n, k, rfl, h1, fun B9 G9 hp => ?_⟩)))
  exact And.intro (fun _ => hK _ ((i_sing h1 _ _ _).elim fun n9 h8 => h8.elim fun k9 h8 => ⟨s, t, u, A9, F9, B9, G9, c9, n9, k9, rfl, CI_per hp h8, Rel_per hp h6, Aux_per hp h7, by omega⟩)) (fun hne => (hne rfl).elim)
set_option maxRecDepth 20000 in
set_option maxHeartbeats 1000000 in
theorem Lc_begin {L : Nat} {xs : Nat → Int32} {Qp : Option Value → XW → Prop} {K : Nat → XL → List Value → XW → Prop} {i : Nat} {w : XW} (hi : i + 6 ≤ L) (hL : L ≤ 384) (h : LI (100 * i) w) (hK : ∀ w', LI (100 * i + 600) w' → K 1456 (LLS (nI i)) [] w') : xw 4 (some .boolean) L xs tL (fun _ => none) nL9 g0 cL Qp cuL K 80 486 (LLS (nI i)) [] w := by
  obtain ⟨s, t, u, A, F, B, G, c, n, k, rfl, h1, h2, h3, h4⟩ := h
  have v1 : vp_in (nI i + Int32.ofInt 1) L := Lv hi hL 1 rfl (by decide)
  refine (And.intro v1 ⟨_, rfl, s, t, u, A, F, B, G, c, n, k, rfl, h1, h2, h3, by omega, fun s t u A9 F9 c9 h5 h6 h7 => ?_⟩)
  refine (And.intro v1 ⟨_, rfl, s, t, u, A9, F9, B, G, n, k, rfl, h1, fun B9 G9 hp => ?_⟩)
  exact And.intro (fun _ => hK _ ((i_begin h1 _).elim fun n9 h8 => h8.elim fun k9 h8 => ⟨s, t, u, A9, F9, B9, G9, c9, n9, k9, rfl, CI_per hp h8, Rel_per hp h6, Aux_per hp h7, by omega⟩)) (fun hne => (hne rfl).elim)
set_option maxRecDepth 20000 in
set_option maxHeartbeats 1000000 in
theorem Lc_feed {L : Nat} {xs : Nat → Int32} {Qp : Option Value → XW → Prop} {K : Nat → XL → List Value → XW → Prop} {i : Nat} {w : XW} (hi : i + 6 ≤ L) (hL : L ≤ 384) (h : LI (100 * i) w) (hK : ∀ w', LI (100 * i + 600) w' → K 1456 (LLS (nI i)) [] w') : xw 4 (some .boolean) L xs tL (fun _ => none) nL9 g0 cL Qp cuL K 80 509 (LLS (nI i)) [] w := by
  obtain ⟨s, t, u, A, F, B, G, c, n, k, rfl, h1, h2, h3, h4⟩ := h
  have v1 : vp_in (nI i + Int32.ofInt 1) L := Lv hi hL 1 rfl (by decide)
  have v2 : vp_in (nI i + Int32.ofInt 2) L := Lv hi hL 2 rfl (by decide)
  have v3 : vp_in (nI i + Int32.ofInt 3) L := Lv hi hL 3 rfl (by decide)
  refine (And.intro v1 (And.intro v2 (And.intro v3 ⟨_, _, rfl, s, t, u, A, F, B, G, c, n, k, rfl, h1, h2, h3, by omega, fun s t u A9 F9 c9 h5 h6 h7 => ?_⟩)))
  refine (And.intro v1 (And.intro v2 (And.intro v3 ⟨_, _, rfl, s, t, u, A9, F9, B, G, n, k, rfl, h1, fun B9 G9 hp => ?_⟩)))
  exact And.intro (fun _ => hK _ ((i_feed h1 _ _).elim fun n9 h8 => h8.elim fun k9 h8 => ⟨s, t, u, A9, F9, B9, G9, c9, n9, k9, rfl, CI_per hp h8, Rel_per hp h6, Aux_per hp h7, by omega⟩)) (fun hne => (hne rfl).elim)
set_option maxRecDepth 20000 in
set_option maxHeartbeats 1000000 in
theorem Lc_text {L : Nat} {xs : Nat → Int32} {Qp : Option Value → XW → Prop} {K : Nat → XL → List Value → XW → Prop} {i : Nat} {w : XW} (hi : i + 6 ≤ L) (hL : L ≤ 384) (h : LI (100 * i) w) (hK : ∀ w', LI (100 * i + 600) w' → K 1456 (LLS (nI i)) [] w') : xw 4 (some .boolean) L xs tL (fun _ => none) nL9 g0 cL Qp cuL K 80 572 (LLS (nI i)) [] w := by
  obtain ⟨s, t, u, A, F, B, G, c, n, k, rfl, h1, h2, h3, h4⟩ := h
  have v1 : vp_in (nI i + Int32.ofInt 1) L := Lv hi hL 1 rfl (by decide)
  refine (And.intro v1 ⟨_, rfl, s, t, u, A, F, B, G, c, n, k, rfl, h1, h2, h3, by omega, fun s t u A9 F9 c9 h5 h6 h7 => ?_⟩)
  refine (And.intro v1 ⟨_, rfl, s, t, u, A9, F9, B, G, n, k, rfl, h1, fun B9 G9 hp => ?_⟩)
  exact And.intro (fun _ => hK _ ((i_text h1 _).elim fun n9 h8 => h8.elim fun k9 h8 => ⟨s, t, u, A9, F9, B9, G9, c9, n9, k9, rfl, CI_per hp h8, Rel_per hp h6, Aux_per hp h7, by omega⟩)) (fun hne => (hne rfl).elim)
set_option maxRecDepth 20000 in
set_option maxHeartbeats 1000000 in
theorem Lc_law {L : Nat} {xs : Nat → Int32} {Qp : Option Value → XW → Prop} {K : Nat → XL → List Value → XW → Prop} {i : Nat} {w : XW} (hi : i + 6 ≤ L) (hL : L ≤ 384) (h : LI (100 * i) w) (hK : ∀ w', LI (100 * i + 600) w' → K 1456 (LLS (nI i)) [] w') : xw 4 (some .boolean) L xs tL (fun _ => none) nL9 g0 cL Qp cuL K 80 595 (LLS (nI i)) [] w := by
  obtain ⟨s, t, u, A, F, B, G, c, n, k, rfl, h1, h2, h3, h4⟩ := h
  have v1 : vp_in (nI i + Int32.ofInt 1) L := Lv hi hL 1 rfl (by decide)
  have v2 : vp_in (nI i + Int32.ofInt 2) L := Lv hi hL 2 rfl (by decide)
  have v3 : vp_in (nI i + Int32.ofInt 3) L := Lv hi hL 3 rfl (by decide)
  have v4 : vp_in (nI i + Int32.ofInt 4) L := Lv hi hL 4 rfl (by decide)
  have v5 : vp_in (nI i + Int32.ofInt 5) L := Lv hi hL 5 rfl (by decide)
  refine (And.intro v1 (And.intro v2 (And.intro v3 (And.intro v4 (And.intro v5 ⟨_, _, _, _, _, rfl, s, t, u, A, F, B, G, c, n, k, rfl, h1, h2, h3, by omega, fun s t u A9 F9 c9 h5 h6 h7 => ?_⟩)))))
  refine (And.intro v1 (And.intro v2 (And.intro v3 (And.intro v4 (And.intro v5 ⟨_, _, _, _, _, rfl, s, t, u, A9, F9, B, G, n, k, rfl, h1, fun B9 G9 hp => ?_⟩)))))
  exact And.intro (fun _ => hK _ ((i_law h1 _ _ _ _ _).elim fun n9 h8 => h8.elim fun k9 h8 => ⟨s, t, u, A9, F9, B9, G9, c9, n9, k9, rfl, CI_per hp h8, Rel_per hp h6, Aux_per hp h7, by omega⟩)) (fun hne => (hne rfl).elim)
set_option maxRecDepth 20000 in
set_option maxHeartbeats 1000000 in
theorem Lc_bars {L : Nat} {xs : Nat → Int32} {Qp : Option Value → XW → Prop} {K : Nat → XL → List Value → XW → Prop} {i : Nat} {w : XW} (hi : i + 6 ≤ L) (hL : L ≤ 384) (h : LI (100 * i) w) (hK : ∀ w', LI (100 * i + 600) w' → K 1456 (LLS (nI i)) [] w') : xw 4 (some .boolean) L xs tL (fun _ => none) nL9 g0 cL Qp cuL K 80 658 (LLS (nI i)) [] w := by
  obtain ⟨s, t, u, A, F, B, G, c, n, k, rfl, h1, h2, h3, h4⟩ := h
  have v1 : vp_in (nI i + Int32.ofInt 1) L := Lv hi hL 1 rfl (by decide)
  refine (And.intro v1 ⟨_, rfl, s, t, u, A, F, B, G, c, n, k, rfl, h1, h2, h3, by omega, fun s t u A9 F9 c9 h5 h6 h7 => ?_⟩)
  refine (And.intro v1 ⟨_, rfl, s, t, u, A9, F9, B, G, n, k, rfl, h1, fun B9 G9 hp => ?_⟩)
  exact And.intro (fun _ => hK _ ((i_bars h1 _).elim fun n9 h8 => h8.elim fun k9 h8 => ⟨s, t, u, A9, F9, B9, G9, c9, n9, k9, rfl, CI_per hp h8, Rel_per hp h6, Aux_per hp h7, by omega⟩)) (fun hne => (hne rfl).elim)
set_option maxRecDepth 20000 in
set_option maxHeartbeats 1000000 in
theorem Lc_loose {L : Nat} {xs : Nat → Int32} {Qp : Option Value → XW → Prop} {K : Nat → XL → List Value → XW → Prop} {i : Nat} {w : XW} (hi : i + 6 ≤ L) (hL : L ≤ 384) (h : LI (100 * i) w) (hK : ∀ w', LI (100 * i + 600) w' → K 1456 (LLS (nI i)) [] w') : xw 4 (some .boolean) L xs tL (fun _ => none) nL9 g0 cL Qp cuL K 80 681 (LLS (nI i)) [] w := by
  obtain ⟨s, t, u, A, F, B, G, c, n, k, rfl, h1, h2, h3, h4⟩ := h
  have v1 : vp_in (nI i + Int32.ofInt 1) L := Lv hi hL 1 rfl (by decide)
  have v2 : vp_in (nI i + Int32.ofInt 2) L := Lv hi hL 2 rfl (by decide)
  refine (And.intro v1 (And.intro v2 ⟨_, _, rfl, s, t, u, A, F, B, G, c, n, k, rfl, h1, h2, h3, by omega, fun s t u A9 F9 c9 h5 h6 h7 => ?_⟩))
  refine (And.intro v1 (And.intro v2 ⟨_, _, rfl, s, t, u, A9, F9, B, G, n, k, rfl, h1, fun B9 G9 hp => ?_⟩))
  exact And.intro (fun _ => hK _ ((i_loose h1 _ _).elim fun n9 h8 => h8.elim fun k9 h8 => ⟨s, t, u, A9, F9, B9, G9, c9, n9, k9, rfl, CI_per hp h8, Rel_per hp h6, Aux_per hp h7, by omega⟩)) (fun hne => (hne rfl).elim)
set_option maxRecDepth 20000 in
set_option maxHeartbeats 1000000 in
theorem Lc_far {L : Nat} {xs : Nat → Int32} {Qp : Option Value → XW → Prop} {K : Nat → XL → List Value → XW → Prop} {i : Nat} {w : XW} (hi : i + 6 ≤ L) (hL : L ≤ 384) (h : LI (100 * i) w) (hK : ∀ w', LI (100 * i + 600) w' → K 1456 (LLS (nI i)) [] w') : xw 4 (some .boolean) L xs tL (fun _ => none) nL9 g0 cL Qp cuL K 80 714 (LLS (nI i)) [] w := by
  obtain ⟨s, t, u, A, F, B, G, c, n, k, rfl, h1, h2, h3, h4⟩ := h
  have v1 : vp_in (nI i + Int32.ofInt 1) L := Lv hi hL 1 rfl (by decide)
  have v2 : vp_in (nI i + Int32.ofInt 2) L := Lv hi hL 2 rfl (by decide)
  refine (And.intro v1 (And.intro v2 ⟨_, _, rfl, s, t, u, A, F, B, G, c, n, k, rfl, h1, h2, h3, by omega, fun s t u A9 F9 c9 h5 h6 h7 => ?_⟩))
  refine (And.intro v1 (And.intro v2 ⟨_, _, rfl, s, t, u, A9, F9, B, G, n, k, rfl, h1, fun B9 G9 hp => ?_⟩))
  exact And.intro (fun _ => hK _ ((i_far h1 _ _).elim fun n9 h8 => h8.elim fun k9 h8 => ⟨s, t, u, A9, F9, B9, G9, c9, n9, k9, rfl, CI_per hp h8, Rel_per hp h6, Aux_per hp h7, by omega⟩)) (fun hne => (hne rfl).elim)
set_option maxRecDepth 20000 in
set_option maxHeartbeats 1000000 in
theorem Lc_worths {L : Nat} {xs : Nat → Int32} {Qp : Option Value → XW → Prop} {K : Nat → XL → List Value → XW → Prop} {i : Nat} {w : XW} (hi : i + 6 ≤ L) (hL : L ≤ 384) (h : LI (100 * i) w) (hK : ∀ w', LI (100 * i + 600) w' → K 1456 (LLS (nI i)) [] w') : xw 4 (some .boolean) L xs tL (fun _ => none) nL9 g0 cL Qp cuL K 80 747 (LLS (nI i)) [] w := by
  obtain ⟨s, t, u, A, F, B, G, c, n, k, rfl, h1, h2, h3, h4⟩ := h
  have v1 : vp_in (nI i + Int32.ofInt 1) L := Lv hi hL 1 rfl (by decide)
  refine (And.intro v1 ⟨_, rfl, s, t, u, A, F, B, G, c, n, k, rfl, h1, h2, h3, by omega, fun s t u A9 F9 c9 h5 h6 h7 => ?_⟩)
  refine (And.intro v1 ⟨_, rfl, s, t, u, A9, F9, B, G, n, k, rfl, h1, fun B9 G9 hp => ?_⟩)
  exact And.intro (fun _ => hK _ ((i_worths h1 _).elim fun n9 h8 => h8.elim fun k9 h8 => ⟨s, t, u, A9, F9, B9, G9, c9, n9, k9, rfl, CI_per hp h8, Rel_per hp h6, Aux_per hp h7, by omega⟩)) (fun hne => (hne rfl).elim)
set_option maxRecDepth 20000 in
set_option maxHeartbeats 1000000 in
theorem Lc_state {L : Nat} {xs : Nat → Int32} {Qp : Option Value → XW → Prop} {K : Nat → XL → List Value → XW → Prop} {i : Nat} {w : XW} (hi : i + 6 ≤ L) (hL : L ≤ 384) (h : LI (100 * i) w) (hK : ∀ w', LI (100 * i + 600) w' → K 1456 (LLS (nI i)) [] w') : xw 4 (some .boolean) L xs tL (fun _ => none) nL9 g0 cL Qp cuL K 80 770 (LLS (nI i)) [] w := by
  obtain ⟨s, t, u, A, F, B, G, c, n, k, rfl, h1, h2, h3, h4⟩ := h
  refine ⟨rfl, s, t, u, A, F, B, G, c, n, k, rfl, h1, h2, h3, by omega, fun v hv => ?_⟩
  subst hv
  refine ⟨rfl, s, t, u, A, F, B, G, n, k, rfl, h1, fun B9 G9 hp => ?_⟩
  exact And.intro (fun _ => hK _ ⟨s, t, u, A, F, B9, G9, c, n, k, rfl, CI_per hp h1, Rel_per hp h2, Aux_per hp h3, by omega⟩) (fun hne => (hne (lcmp0 _)).elim)
set_option maxRecDepth 20000 in
set_option maxHeartbeats 1000000 in
theorem Lc_round {L : Nat} {xs : Nat → Int32} {Qp : Option Value → XW → Prop} {K : Nat → XL → List Value → XW → Prop} {i : Nat} {w : XW} (hi : i + 6 ≤ L) (hL : L ≤ 384) (h : LI (100 * i) w) (hK : ∀ w', LI (100 * i + 600) w' → K 1456 (LLS (nI i)) [] w') : xw 4 (some .boolean) L xs tL (fun _ => none) nL9 g0 cL Qp cuL K 80 784 (LLS (nI i)) [] w := by
  obtain ⟨s, t, u, A, F, B, G, c, n, k, rfl, h1, h2, h3, h4⟩ := h
  have v1 : vp_in (nI i + Int32.ofInt 1) L := Lv hi hL 1 rfl (by decide)
  refine (And.intro v1 ⟨_, rfl, s, t, u, A, F, B, G, c, n, k, rfl, h1, h2, h3, by omega, fun s t u A9 F9 c9 h5 h6 h7 => ?_⟩)
  refine (And.intro v1 ⟨_, rfl, s, t, u, A9, F9, B, G, n, k, rfl, h1, fun B9 G9 hp => ?_⟩)
  exact And.intro (fun _ => hK _ ((i_round h1 _).elim fun n9 h8 => h8.elim fun k9 h8 => ⟨s, t, u, A9, F9, B9, G9, c9, n9, k9, rfl, CI_per hp h8, Rel_per hp h6, Aux_per hp h7, by omega⟩)) (fun hne => (hne rfl).elim)
set_option maxRecDepth 20000 in
set_option maxHeartbeats 1000000 in
theorem Lc_beginnings {L : Nat} {xs : Nat → Int32} {Qp : Option Value → XW → Prop} {K : Nat → XL → List Value → XW → Prop} {i : Nat} {w : XW} (hi : i + 6 ≤ L) (hL : L ≤ 384) (h : LI (100 * i) w) (hK : ∀ w', LI (100 * i + 600) w' → K 1456 (LLS (nI i)) [] w') : xw 4 (some .boolean) L xs tL (fun _ => none) nL9 g0 cL Qp cuL K 80 807 (LLS (nI i)) [] w := by
  obtain ⟨s, t, u, A, F, B, G, c, n, k, rfl, h1, h2, h3, h4⟩ := h
  have v1 : vp_in (nI i + Int32.ofInt 1) L := Lv hi hL 1 rfl (by decide)
  have v2 : vp_in (nI i + Int32.ofInt 2) L := Lv hi hL 2 rfl (by decide)
  refine (And.intro v1 (And.intro v2 ⟨_, _, rfl, s, t, u, A, F, B, G, c, n, k, rfl, h1, h2, h3, by omega, fun s t u A9 F9 c9 h5 h6 h7 => ?_⟩))
  refine (And.intro v1 (And.intro v2 ⟨_, _, rfl, s, t, u, A9, F9, B, G, n, k, rfl, h1, fun B9 G9 hp => ?_⟩))
  exact And.intro (fun _ => hK _ ((i_beginnings h1 _ _).elim fun n9 h8 => h8.elim fun k9 h8 => ⟨s, t, u, A9, F9, B9, G9, c9, n9, k9, rfl, CI_per hp h8, Rel_per hp h6, Aux_per hp h7, by omega⟩)) (fun hne => (hne rfl).elim)
set_option maxRecDepth 20000 in
set_option maxHeartbeats 1000000 in
theorem Lc_best {L : Nat} {xs : Nat → Int32} {Qp : Option Value → XW → Prop} {K : Nat → XL → List Value → XW → Prop} {i : Nat} {w : XW} (hi : i + 6 ≤ L) (hL : L ≤ 384) (h : LI (100 * i) w) (hK : ∀ w', LI (100 * i + 600) w' → K 1456 (LLS (nI i)) [] w') : xw 4 (some .boolean) L xs tL (fun _ => none) nL9 g0 cL Qp cuL K 80 840 (LLS (nI i)) [] w := by
  obtain ⟨s, t, u, A, F, B, G, c, n, k, rfl, h1, h2, h3, h4⟩ := h
  have v1 : vp_in (nI i + Int32.ofInt 1) L := Lv hi hL 1 rfl (by decide)
  refine (And.intro v1 ⟨_, rfl, s, t, u, A, F, B, G, c, n, k, rfl, h1, h2, h3, by omega, fun s t u A9 F9 c9 h5 h6 h7 => ?_⟩)
  refine (And.intro v1 ⟨_, rfl, s, t, u, A9, F9, B, G, n, k, rfl, h1, fun B9 G9 hp => ?_⟩)
  exact And.intro (fun _ => hK _ ((i_best h1 _).elim fun n9 h8 => h8.elim fun k9 h8 => ⟨s, t, u, A9, F9, B9, G9, c9, n9, k9, rfl, CI_per hp h8, Rel_per hp h6, Aux_per hp h7, by omega⟩)) (fun hne => (hne rfl).elim)
set_option maxRecDepth 20000 in
set_option maxHeartbeats 1000000 in
theorem Lc_before {L : Nat} {xs : Nat → Int32} {Qp : Option Value → XW → Prop} {K : Nat → XL → List Value → XW → Prop} {i : Nat} {w : XW} (hi : i + 6 ≤ L) (hL : L ≤ 384) (h : LI (100 * i) w) (hK : ∀ w', LI (100 * i + 600) w' → K 1456 (LLS (nI i)) [] w') : xw 4 (some .boolean) L xs tL (fun _ => none) nL9 g0 cL Qp cuL K 80 863 (LLS (nI i)) [] w := by
  obtain ⟨s, t, u, A, F, B, G, c, n, k, rfl, h1, h2, h3, h4⟩ := h
  have v1 : vp_in (nI i + Int32.ofInt 1) L := Lv hi hL 1 rfl (by decide)
  refine (And.intro v1 ⟨_, rfl, s, t, u, A, F, B, G, c, n, k, rfl, h1, h2, h3, by omega, fun s t u A9 F9 c9 h5 h6 h7 => ?_⟩)
  refine (And.intro v1 ⟨_, rfl, s, t, u, A9, F9, B, G, n, k, rfl, h1, fun B9 G9 hp => ?_⟩)
  exact And.intro (fun _ => hK _ ((i_before h1 _).elim fun n9 h8 => h8.elim fun k9 h8 => ⟨s, t, u, A9, F9, B9, G9, c9, n9, k9, rfl, CI_per hp h8, Rel_per hp h6, Aux_per hp h7, by omega⟩)) (fun hne => (hne rfl).elim)
set_option maxRecDepth 20000 in
set_option maxHeartbeats 1000000 in
theorem Lc_never {L : Nat} {xs : Nat → Int32} {Qp : Option Value → XW → Prop} {K : Nat → XL → List Value → XW → Prop} {i : Nat} {w : XW} (hi : i + 6 ≤ L) (hL : L ≤ 384) (h : LI (100 * i) w) (hK : ∀ w', LI (100 * i + 600) w' → K 1456 (LLS (nI i)) [] w') : xw 4 (some .boolean) L xs tL (fun _ => none) nL9 g0 cL Qp cuL K 80 886 (LLS (nI i)) [] w := by
  obtain ⟨s, t, u, A, F, B, G, c, n, k, rfl, h1, h2, h3, h4⟩ := h
  refine ⟨rfl, s, t, u, A, F, B, G, c, n, k, rfl, h1, h2, h3, by omega, fun s t u A9 F9 c9 h5 h6 h7 => ?_⟩
  refine ⟨rfl, s, t, u, A9, F9, B, G, n, k, rfl, h1, fun B9 G9 hp => ?_⟩
  obtain ⟨n9, k9, h8⟩ := i_never h1
  exact And.intro (fun _ => hK _ ((i_never h1).elim fun n9 h8 => h8.elim fun k9 h8 => ⟨s, t, u, A9, F9, B9, G9, c9, n9, k9, rfl, CI_per hp h8, Rel_per hp h6, Aux_per hp h7, by omega⟩)) (fun hne => (hne rfl).elim)
set_option maxRecDepth 20000 in
set_option maxHeartbeats 1000000 in
theorem Lc_rings {L : Nat} {xs : Nat → Int32} {Qp : Option Value → XW → Prop} {K : Nat → XL → List Value → XW → Prop} {i : Nat} {w : XW} (hi : i + 6 ≤ L) (hL : L ≤ 384) (h : LI (100 * i) w) (hK : ∀ w', LI (100 * i + 600) w' → K 1456 (LLS (nI i)) [] w') : xw 4 (some .boolean) L xs tL (fun _ => none) nL9 g0 cL Qp cuL K 80 899 (LLS (nI i)) [] w := by
  obtain ⟨s, t, u, A, F, B, G, c, n, k, rfl, h1, h2, h3, h4⟩ := h
  have v1 : vp_in (nI i + Int32.ofInt 1) L := Lv hi hL 1 rfl (by decide)
  refine (And.intro v1 ⟨_, rfl, s, t, u, A, F, B, G, c, n, k, rfl, h1, h2, h3, by omega, fun s t u A9 F9 c9 h5 h6 h7 => ?_⟩)
  refine (And.intro v1 ⟨_, rfl, s, t, u, A9, F9, B, G, n, k, rfl, h1, fun B9 G9 hp => ?_⟩)
  exact And.intro (fun _ => hK _ ((i_rings h1 _).elim fun n9 h8 => h8.elim fun k9 h8 => ⟨s, t, u, A9, F9, B9, G9, c9, n9, k9, rfl, CI_per hp h8, Rel_per hp h6, Aux_per hp h7, by omega⟩)) (fun hne => (hne rfl).elim)
set_option maxRecDepth 20000 in
set_option maxHeartbeats 1000000 in
theorem Lc_fewest {L : Nat} {xs : Nat → Int32} {Qp : Option Value → XW → Prop} {K : Nat → XL → List Value → XW → Prop} {i : Nat} {w : XW} (hi : i + 6 ≤ L) (hL : L ≤ 384) (h : LI (100 * i) w) (hK : ∀ w', LI (100 * i + 600) w' → K 1456 (LLS (nI i)) [] w') : xw 4 (some .boolean) L xs tL (fun _ => none) nL9 g0 cL Qp cuL K 80 922 (LLS (nI i)) [] w := by
  obtain ⟨s, t, u, A, F, B, G, c, n, k, rfl, h1, h2, h3, h4⟩ := h
  have v1 : vp_in (nI i + Int32.ofInt 1) L := Lv hi hL 1 rfl (by decide)
  refine (And.intro v1 ⟨_, rfl, s, t, u, A, F, B, G, c, n, k, rfl, h1, h2, h3, by omega, fun s t u A9 F9 c9 h5 h6 h7 => ?_⟩)
  refine (And.intro v1 ⟨_, rfl, s, t, u, A9, F9, B, G, n, k, rfl, h1, fun B9 G9 hp => ?_⟩)
  exact And.intro (fun _ => hK _ ((i_fewest h1 _).elim fun n9 h8 => h8.elim fun k9 h8 => ⟨s, t, u, A9, F9, B9, G9, c9, n9, k9, rfl, CI_per hp h8, Rel_per hp h6, Aux_per hp h7, by omega⟩)) (fun hne => (hne rfl).elim)
set_option maxRecDepth 20000 in
set_option maxHeartbeats 1000000 in
theorem Lc_made {L : Nat} {xs : Nat → Int32} {Qp : Option Value → XW → Prop} {K : Nat → XL → List Value → XW → Prop} {i : Nat} {w : XW} (hi : i + 6 ≤ L) (hL : L ≤ 384) (h : LI (100 * i) w) (hK : ∀ w', LI (100 * i + 600) w' → K 1456 (LLS (nI i)) [] w') : xw 4 (some .boolean) L xs tL (fun _ => none) nL9 g0 cL Qp cuL K 80 945 (LLS (nI i)) [] w := by
  obtain ⟨s, t, u, A, F, B, G, c, n, k, rfl, h1, h2, h3, h4⟩ := h
  have v1 : vp_in (nI i + Int32.ofInt 1) L := Lv hi hL 1 rfl (by decide)
  have v2 : vp_in (nI i + Int32.ofInt 2) L := Lv hi hL 2 rfl (by decide)
  refine (And.intro v1 (And.intro v2 ⟨_, _, rfl, s, t, u, A, F, B, G, c, n, k, rfl, h1, h2, h3, by omega, fun s t u A9 F9 c9 h5 h6 h7 => ?_⟩))
  refine (And.intro v1 (And.intro v2 ⟨_, _, rfl, s, t, u, A9, F9, B, G, n, k, rfl, h1, fun B9 G9 hp => ?_⟩))
  exact And.intro (fun _ => hK _ ((i_made h1 _ _).elim fun n9 h8 => h8.elim fun k9 h8 => ⟨s, t, u, A9, F9, B9, G9, c9, n9, k9, rfl, CI_per hp h8, Rel_per hp h6, Aux_per hp h7, by omega⟩)) (fun hne => (hne rfl).elim)
set_option maxRecDepth 20000 in
set_option maxHeartbeats 1000000 in
theorem Lc_heard {L : Nat} {xs : Nat → Int32} {Qp : Option Value → XW → Prop} {K : Nat → XL → List Value → XW → Prop} {i : Nat} {w : XW} (hi : i + 6 ≤ L) (hL : L ≤ 384) (h : LI (100 * i) w) (hK : ∀ w', LI (100 * i + 600) w' → K 1456 (LLS (nI i)) [] w') : xw 4 (some .boolean) L xs tL (fun _ => none) nL9 g0 cL Qp cuL K 80 978 (LLS (nI i)) [] w := by
  obtain ⟨s, t, u, A, F, B, G, c, n, k, rfl, h1, h2, h3, h4⟩ := h
  have v1 : vp_in (nI i + Int32.ofInt 1) L := Lv hi hL 1 rfl (by decide)
  have v2 : vp_in (nI i + Int32.ofInt 2) L := Lv hi hL 2 rfl (by decide)
  have v3 : vp_in (nI i + Int32.ofInt 3) L := Lv hi hL 3 rfl (by decide)
  refine (And.intro v1 (And.intro v2 (And.intro v3 ⟨_, _, _, rfl, s, t, u, A, F, B, G, c, n, k, rfl, h1, h2, h3, by omega, fun s t u A9 F9 c9 h5 h6 h7 => ?_⟩)))
  refine (And.intro v1 (And.intro v2 (And.intro v3 ⟨_, _, _, rfl, s, t, u, A9, F9, B, G, n, k, rfl, h1, fun B9 G9 hp => ?_⟩)))
  exact And.intro (fun _ => hK _ ((i_heard h1 _ _ _).elim fun n9 h8 => h8.elim fun k9 h8 => ⟨s, t, u, A9, F9, B9, G9, c9, n9, k9, rfl, CI_per hp h8, Rel_per hp h6, Aux_per hp h7, by omega⟩)) (fun hne => (hne rfl).elim)
set_option maxRecDepth 20000 in
set_option maxHeartbeats 1000000 in
theorem Lc_gone {L : Nat} {xs : Nat → Int32} {Qp : Option Value → XW → Prop} {K : Nat → XL → List Value → XW → Prop} {i : Nat} {w : XW} (hi : i + 6 ≤ L) (hL : L ≤ 384) (h : LI (100 * i) w) (hK : ∀ w', LI (100 * i + 600) w' → K 1456 (LLS (nI i)) [] w') : xw 4 (some .boolean) L xs tL (fun _ => none) nL9 g0 cL Qp cuL K 80 1021 (LLS (nI i)) [] w := by
  obtain ⟨s, t, u, A, F, B, G, c, n, k, rfl, h1, h2, h3, h4⟩ := h
  have v1 : vp_in (nI i + Int32.ofInt 1) L := Lv hi hL 1 rfl (by decide)
  have v2 : vp_in (nI i + Int32.ofInt 2) L := Lv hi hL 2 rfl (by decide)
  refine (And.intro v1 (And.intro v2 ⟨_, _, rfl, s, t, u, A, F, B, G, c, n, k, rfl, h1, h2, h3, by omega, fun s t u A9 F9 c9 h5 h6 h7 => ?_⟩))
  refine (And.intro v1 (And.intro v2 ⟨_, _, rfl, s, t, u, A9, F9, B, G, n, k, rfl, h1, fun B9 G9 hp => ?_⟩))
  exact And.intro (fun _ => hK _ ((i_gone h1 _ _).elim fun n9 h8 => h8.elim fun k9 h8 => ⟨s, t, u, A9, F9, B9, G9, c9, n9, k9, rfl, CI_per hp h8, Rel_per hp h6, Aux_per hp h7, by omega⟩)) (fun hne => (hne rfl).elim)
set_option maxRecDepth 20000 in
set_option maxHeartbeats 1000000 in
theorem Lc_tune {L : Nat} {xs : Nat → Int32} {Qp : Option Value → XW → Prop} {K : Nat → XL → List Value → XW → Prop} {i : Nat} {w : XW} (hi : i + 6 ≤ L) (hL : L ≤ 384) (h : LI (100 * i) w) (hK : ∀ w', LI (100 * i + 600) w' → K 1456 (LLS (nI i)) [] w') : xw 4 (some .boolean) L xs tL (fun _ => none) nL9 g0 cL Qp cuL K 80 1054 (LLS (nI i)) [] w := by
  obtain ⟨s, t, u, A, F, B, G, c, n, k, rfl, h1, h2, h3, h4⟩ := h
  have v1 : vp_in (nI i + Int32.ofInt 1) L := Lv hi hL 1 rfl (by decide)
  refine (And.intro v1 ⟨_, rfl, s, t, u, A, F, B, G, c, n, k, rfl, h1, h2, h3, by omega, fun s t u A9 F9 c9 h5 h6 h7 => ?_⟩)
  refine (And.intro v1 ⟨_, rfl, s, t, u, A9, F9, B, G, n, k, rfl, h1, fun B9 G9 hp => ?_⟩)
  exact And.intro (fun _ => hK _ ((i_tune h1 _).elim fun n9 h8 => h8.elim fun k9 h8 => ⟨s, t, u, A9, F9, B9, G9, c9, n9, k9, rfl, CI_per hp h8, Rel_per hp h6, Aux_per hp h7, by omega⟩)) (fun hne => (hne rfl).elim)
set_option maxRecDepth 20000 in
set_option maxHeartbeats 1000000 in
theorem Lc_longer {L : Nat} {xs : Nat → Int32} {Qp : Option Value → XW → Prop} {K : Nat → XL → List Value → XW → Prop} {i : Nat} {w : XW} (hi : i + 6 ≤ L) (hL : L ≤ 384) (h : LI (100 * i) w) (hK : ∀ w', LI (100 * i + 600) w' → K 1456 (LLS (nI i)) [] w') : xw 4 (some .boolean) L xs tL (fun _ => none) nL9 g0 cL Qp cuL K 80 1077 (LLS (nI i)) [] w := by
  obtain ⟨s, t, u, A, F, B, G, c, n, k, rfl, h1, h2, h3, h4⟩ := h
  have v1 : vp_in (nI i + Int32.ofInt 1) L := Lv hi hL 1 rfl (by decide)
  refine (And.intro v1 ⟨_, rfl, s, t, u, A, F, B, G, c, n, k, rfl, h1, h2, h3, by omega, fun s t u A9 F9 c9 h5 h6 h7 => ?_⟩)
  refine (And.intro v1 ⟨_, rfl, s, t, u, A9, F9, B, G, n, k, rfl, h1, fun B9 G9 hp => ?_⟩)
  exact And.intro (fun _ => hK _ ((i_longer h1 _).elim fun n9 h8 => h8.elim fun k9 h8 => ⟨s, t, u, A9, F9, B9, G9, c9, n9, k9, rfl, CI_per hp h8, Rel_per hp h6, Aux_per hp h7, by omega⟩)) (fun hne => (hne rfl).elim)
set_option maxRecDepth 20000 in
set_option maxHeartbeats 1000000 in
theorem Lc_seed {L : Nat} {xs : Nat → Int32} {Qp : Option Value → XW → Prop} {K : Nat → XL → List Value → XW → Prop} {i : Nat} {w : XW} (hi : i + 6 ≤ L) (hL : L ≤ 384) (h : LI (100 * i) w) (hK : ∀ w', LI (100 * i + 600) w' → K 1456 (LLS (nI i)) [] w') : xw 4 (some .boolean) L xs tL (fun _ => none) nL9 g0 cL Qp cuL K 80 1100 (LLS (nI i)) [] w := by
  obtain ⟨s, t, u, A, F, B, G, c, n, k, rfl, h1, h2, h3, h4⟩ := h
  have v1 : vp_in (nI i + Int32.ofInt 1) L := Lv hi hL 1 rfl (by decide)
  refine (And.intro v1 ⟨_, rfl, s, t, u, A, F, B, G, c, n, k, rfl, h1, h2, h3, by omega, fun s t u A9 F9 c9 h5 h6 h7 => ?_⟩)
  refine (And.intro v1 ⟨_, rfl, s, t, u, A9, F9, B, G, n, k, rfl, h1, fun B9 G9 hp => ?_⟩)
  exact And.intro (fun _ => hK _ ((i_seed h1 _).elim fun n9 h8 => h8.elim fun k9 h8 => ⟨s, t, u, A9, F9, B9, G9, c9, n9, k9, rfl, CI_per hp h8, Rel_per hp h6, Aux_per hp h7, by omega⟩)) (fun hne => (hne rfl).elim)
set_option maxRecDepth 20000 in
set_option maxHeartbeats 1000000 in
theorem Lc_voice {L : Nat} {xs : Nat → Int32} {Qp : Option Value → XW → Prop} {K : Nat → XL → List Value → XW → Prop} {i : Nat} {w : XW} (hi : i + 6 ≤ L) (hL : L ≤ 384) (h : LI (100 * i) w) (hK : ∀ w', LI (100 * i + 600) w' → K 1456 (LLS (nI i)) [] w') : xw 4 (some .boolean) L xs tL (fun _ => none) nL9 g0 cL Qp cuL K 80 1123 (LLS (nI i)) [] w := by
  obtain ⟨s, t, u, A, F, B, G, c, n, k, rfl, h1, h2, h3, h4⟩ := h
  have v1 : vp_in (nI i + Int32.ofInt 1) L := Lv hi hL 1 rfl (by decide)
  have v2 : vp_in (nI i + Int32.ofInt 2) L := Lv hi hL 2 rfl (by decide)
  have v3 : vp_in (nI i + Int32.ofInt 3) L := Lv hi hL 3 rfl (by decide)
  refine (And.intro v1 (And.intro v2 (And.intro v3 ⟨_, _, _, rfl, s, t, u, A, F, B, G, c, n, k, rfl, h1, h2, h3, by omega, fun s t u A9 F9 c9 h5 h6 h7 => ?_⟩)))
  refine (And.intro v1 (And.intro v2 (And.intro v3 ⟨_, _, _, rfl, s, t, u, A9, F9, B, G, n, k, rfl, h1, fun B9 G9 hp => ?_⟩)))
  exact And.intro (fun _ => hK _ ((i_voice h1 _ _ _).elim fun n9 h8 => h8.elim fun k9 h8 => ⟨s, t, u, A9, F9, B9, G9, c9, n9, k9, rfl, CI_per hp h8, Rel_per hp h6, Aux_per hp h7, by omega⟩)) (fun hne => (hne rfl).elim)
set_option maxRecDepth 20000 in
set_option maxHeartbeats 1000000 in
theorem Lc_trace {L : Nat} {xs : Nat → Int32} {Qp : Option Value → XW → Prop} {K : Nat → XL → List Value → XW → Prop} {i : Nat} {w : XW} (hi : i + 6 ≤ L) (hL : L ≤ 384) (h : LI (100 * i) w) (hK : ∀ w', LI (100 * i + 600) w' → K 1456 (LLS (nI i)) [] w') : xw 4 (some .boolean) L xs tL (fun _ => none) nL9 g0 cL Qp cuL K 80 1166 (LLS (nI i)) [] w := by
  obtain ⟨s, t, u, A, F, B, G, c, n, k, rfl, h1, h2, h3, h4⟩ := h
  have v1 : vp_in (nI i + Int32.ofInt 1) L := Lv hi hL 1 rfl (by decide)
  refine (And.intro v1 ⟨_, rfl, s, t, u, A, F, B, G, c, n, k, rfl, h1, h2, h3, by omega, fun s t u A9 F9 c9 h5 h6 h7 => ?_⟩)
  refine (And.intro v1 ⟨_, rfl, s, t, u, A9, F9, B, G, n, k, rfl, h1, fun B9 G9 hp => ?_⟩)
  exact And.intro (fun _ => hK _ ((i_trace h1 _).elim fun n9 h8 => h8.elim fun k9 h8 => ⟨s, t, u, A9, F9, B9, G9, c9, n9, k9, rfl, CI_per hp h8, Rel_per hp h6, Aux_per hp h7, by omega⟩)) (fun hne => (hne rfl).elim)
set_option maxRecDepth 20000 in
set_option maxHeartbeats 1000000 in
theorem Lc_sheet {L : Nat} {xs : Nat → Int32} {Qp : Option Value → XW → Prop} {K : Nat → XL → List Value → XW → Prop} {i : Nat} {w : XW} (hi : i + 6 ≤ L) (hL : L ≤ 384) (h : LI (100 * i) w) (hK : ∀ w', LI (100 * i + 600) w' → K 1456 (LLS (nI i)) [] w') : xw 4 (some .boolean) L xs tL (fun _ => none) nL9 g0 cL Qp cuL K 80 1189 (LLS (nI i)) [] w := by
  obtain ⟨s, t, u, A, F, B, G, c, n, k, rfl, h1, h2, h3, h4⟩ := h
  have v1 : vp_in (nI i + Int32.ofInt 1) L := Lv hi hL 1 rfl (by decide)
  have v2 : vp_in (nI i + Int32.ofInt 2) L := Lv hi hL 2 rfl (by decide)
  have v3 : vp_in (nI i + Int32.ofInt 3) L := Lv hi hL 3 rfl (by decide)
  refine (And.intro v1 (And.intro v2 (And.intro v3 ⟨_, _, _, rfl, s, t, u, A, F, B, G, c, n, k, rfl, h1, h2, h3, by omega, fun s t u A9 F9 c9 h5 h6 h7 => ?_⟩)))
  refine (And.intro v1 (And.intro v2 (And.intro v3 ⟨_, _, _, rfl, s, t, u, A9, F9, B, G, n, k, rfl, h1, fun B9 G9 hp => ?_⟩)))
  exact And.intro (fun _ => hK _ ((i_sheet h1 _ _ _).elim fun n9 h8 => h8.elim fun k9 h8 => ⟨s, t, u, A9, F9, B9, G9, c9, n9, k9, rfl, CI_per hp h8, Rel_per hp h6, Aux_per hp h7, by omega⟩)) (fun hne => (hne rfl).elim)
set_option maxRecDepth 20000 in
set_option maxHeartbeats 1000000 in
theorem Lc_put {L : Nat} {xs : Nat → Int32} {Qp : Option Value → XW → Prop} {K : Nat → XL → List Value → XW → Prop} {i : Nat} {w : XW} (hi : i + 6 ≤ L) (hL : L ≤ 384) (h : LI (100 * i) w) (hK : ∀ w', LI (100 * i + 600) w' → K 1456 (LLS (nI i)) [] w') : xw 4 (some .boolean) L xs tL (fun _ => none) nL9 g0 cL Qp cuL K 80 1232 (LLS (nI i)) [] w := by
  obtain ⟨s, t, u, A, F, B, G, c, n, k, rfl, h1, h2, h3, h4⟩ := h
  have v1 : vp_in (nI i + Int32.ofInt 1) L := Lv hi hL 1 rfl (by decide)
  have v2 : vp_in (nI i + Int32.ofInt 2) L := Lv hi hL 2 rfl (by decide)
  have v3 : vp_in (nI i + Int32.ofInt 3) L := Lv hi hL 3 rfl (by decide)
  refine (And.intro v1 (And.intro v2 (And.intro v3 ⟨_, _, _, rfl, s, t, u, A, F, B, G, c, n, k, rfl, h1, h2, h3, by omega, fun s t u A9 F9 c9 h5 h6 h7 => ?_⟩)))
  refine (And.intro v1 (And.intro v2 (And.intro v3 ⟨_, _, _, rfl, s, t, u, A9, F9, B, G, n, k, rfl, h1, fun B9 G9 hp => ?_⟩)))
  exact And.intro (fun _ => hK _ ((i_put h1 _ _ _).elim fun n9 h8 => h8.elim fun k9 h8 => ⟨s, t, u, A9, F9, B9, G9, c9, n9, k9, rfl, CI_per hp h8, Rel_per hp h6, Aux_per hp h7, by omega⟩)) (fun hne => (hne rfl).elim)
set_option maxRecDepth 20000 in
set_option maxHeartbeats 1000000 in
theorem Lc_move {L : Nat} {xs : Nat → Int32} {Qp : Option Value → XW → Prop} {K : Nat → XL → List Value → XW → Prop} {i : Nat} {w : XW} (hi : i + 6 ≤ L) (hL : L ≤ 384) (h : LI (100 * i) w) (hK : ∀ w', LI (100 * i + 600) w' → K 1456 (LLS (nI i)) [] w') : xw 4 (some .boolean) L xs tL (fun _ => none) nL9 g0 cL Qp cuL K 80 1275 (LLS (nI i)) [] w := by
  obtain ⟨s, t, u, A, F, B, G, c, n, k, rfl, h1, h2, h3, h4⟩ := h
  have v1 : vp_in (nI i + Int32.ofInt 1) L := Lv hi hL 1 rfl (by decide)
  have v2 : vp_in (nI i + Int32.ofInt 2) L := Lv hi hL 2 rfl (by decide)
  have v3 : vp_in (nI i + Int32.ofInt 3) L := Lv hi hL 3 rfl (by decide)
  have v4 : vp_in (nI i + Int32.ofInt 4) L := Lv hi hL 4 rfl (by decide)
  have v5 : vp_in (nI i + Int32.ofInt 5) L := Lv hi hL 5 rfl (by decide)
  refine (And.intro v1 (And.intro v2 (And.intro v3 (And.intro v4 (And.intro v5 ⟨_, _, _, _, _, rfl, s, t, u, A, F, B, G, c, n, k, rfl, h1, h2, h3, by omega, fun s t u A9 F9 c9 h5 h6 h7 => ?_⟩)))))
  refine (And.intro v1 (And.intro v2 (And.intro v3 (And.intro v4 (And.intro v5 ⟨_, _, _, _, _, rfl, s, t, u, A9, F9, B, G, n, k, rfl, h1, fun B9 G9 hp => ?_⟩)))))
  exact And.intro (fun _ => hK _ ((i_move h1 _ _ _ _ _).elim fun n9 h8 => h8.elim fun k9 h8 => ⟨s, t, u, A9, F9, B9, G9, c9, n9, k9, rfl, CI_per hp h8, Rel_per hp h6, Aux_per hp h7, by omega⟩)) (fun hne => (hne rfl).elim)
set_option maxRecDepth 20000 in
set_option maxHeartbeats 1000000 in
theorem Lc_image {L : Nat} {xs : Nat → Int32} {Qp : Option Value → XW → Prop} {K : Nat → XL → List Value → XW → Prop} {i : Nat} {w : XW} (hi : i + 6 ≤ L) (hL : L ≤ 384) (h : LI (100 * i) w) (hK : ∀ w', LI (100 * i + 600) w' → K 1456 (LLS (nI i)) [] w') : xw 4 (some .boolean) L xs tL (fun _ => none) nL9 g0 cL Qp cuL K 80 1338 (LLS (nI i)) [] w := by
  obtain ⟨s, t, u, A, F, B, G, c, n, k, rfl, h1, h2, h3, h4⟩ := h
  refine ⟨rfl, s, t, u, A, F, B, G, c, n, k, rfl, h1, h2, h3, by omega, fun s t u A9 F9 c9 h5 h6 h7 => ?_⟩
  refine ⟨rfl, s, t, u, A9, F9, B, G, n, k, rfl, h1, fun B9 G9 hp => ?_⟩
  obtain ⟨n9, k9, h8⟩ := i_image h1
  exact And.intro (fun _ => hK _ ((i_image h1).elim fun n9 h8 => h8.elim fun k9 h8 => ⟨s, t, u, A9, F9, B9, G9, c9, n9, k9, rfl, CI_per hp h8, Rel_per hp h6, Aux_per hp h7, by omega⟩)) (fun hne => (hne rfl).elim)
set_option maxRecDepth 20000 in
set_option maxHeartbeats 1000000 in
theorem Lc_restore {L : Nat} {xs : Nat → Int32} {Qp : Option Value → XW → Prop} {K : Nat → XL → List Value → XW → Prop} {i : Nat} {w : XW} (hi : i + 6 ≤ L) (hL : L ≤ 384) (h : LI (100 * i) w) (hK : ∀ w', LI (100 * i + 600) w' → K 1456 (LLS (nI i)) [] w') : xw 4 (some .boolean) L xs tL (fun _ => none) nL9 g0 cL Qp cuL K 80 1351 (LLS (nI i)) [] w := by
  obtain ⟨s, t, u, A, F, B, G, c, n, k, rfl, h1, h2, h3, h4⟩ := h
  refine ⟨rfl, s, t, u, A, F, B, G, c, n, k, rfl, h1, h2, h3, by omega, fun s t u A9 F9 c9 h5 h6 h7 => ?_⟩
  refine ⟨rfl, s, t, u, A9, F9, B, G, n, k, rfl, h1, fun B9 G9 hp => ?_⟩
  obtain ⟨n9, k9, h8⟩ := i_restore h1
  exact And.intro (fun _ => hK _ ((i_restore h1).elim fun n9 h8 => h8.elim fun k9 h8 => ⟨s, t, u, A9, F9, B9, G9, c9, n9, k9, rfl, CI_per hp h8, Rel_per hp h6, Aux_per hp h7, by omega⟩)) (fun hne => (hne rfl).elim)
set_option maxRecDepth 20000 in
set_option maxHeartbeats 1000000 in
theorem Lc_tell {L : Nat} {xs : Nat → Int32} {Qp : Option Value → XW → Prop} {K : Nat → XL → List Value → XW → Prop} {i : Nat} {w : XW} (hi : i + 6 ≤ L) (hL : L ≤ 384) (h : LI (100 * i) w) (hK : ∀ w', LI (100 * i + 600) w' → K 1456 (LLS (nI i)) [] w') : xw 4 (some .boolean) L xs tL (fun _ => none) nL9 g0 cL Qp cuL K 80 1364 (LLS (nI i)) [] w := by
  obtain ⟨s, t, u, A, F, B, G, c, n, k, rfl, h1, h2, h3, h4⟩ := h
  have v1 : vp_in (nI i + Int32.ofInt 1) L := Lv hi hL 1 rfl (by decide)
  refine (And.intro v1 ⟨_, rfl, s, t, u, A, F, B, G, c, n, k, rfl, h1, h2, h3, by omega, fun s t u A9 F9 c9 h5 h6 h7 => ?_⟩)
  refine (And.intro v1 ⟨_, rfl, s, t, u, A9, F9, B, G, n, k, rfl, h1, fun B9 G9 hp => ?_⟩)
  exact And.intro (fun _ => hK _ ((i_tell h1 _).elim fun n9 h8 => h8.elim fun k9 h8 => ⟨s, t, u, A9, F9, B9, G9, c9, n9, k9, rfl, CI_per hp h8, Rel_per hp h6, Aux_per hp h7, by omega⟩)) (fun hne => (hne rfl).elim)
set_option maxRecDepth 20000 in
set_option maxHeartbeats 1000000 in
theorem Lc_check {L : Nat} {xs : Nat → Int32} {Qp : Option Value → XW → Prop} {K : Nat → XL → List Value → XW → Prop} {i : Nat} {w : XW} (hi : i + 6 ≤ L) (hL : L ≤ 384) (h : LI (100 * i) w) (hK : ∀ w', LI (100 * i + 600) w' → K 1456 (LLS (nI i)) [] w') : xw 4 (some .boolean) L xs tL (fun _ => none) nL9 g0 cL Qp cuL K 80 1387 (LLS (nI i)) [] w := by
  obtain ⟨s, t, u, A, F, B, G, c, n, k, rfl, h1, h2, h3, h4⟩ := h
  have v1 : vp_in (nI i + Int32.ofInt 1) L := Lv hi hL 1 rfl (by decide)
  refine (And.intro v1 ⟨_, rfl, s, t, u, A, F, B, G, c, n, k, rfl, h1, h2, h3, by omega, fun s t u A9 F9 c9 h5 h6 h7 => ?_⟩)
  refine (And.intro v1 ⟨_, rfl, s, t, u, A9, F9, B, G, n, k, rfl, h1, fun B9 G9 hp => ?_⟩)
  exact And.intro (fun _ => hK _ ((i_check h1 _).elim fun n9 h8 => h8.elim fun k9 h8 => ⟨s, t, u, A9, F9, B9, G9, c9, n9, k9, rfl, CI_per hp h8, Rel_per hp h6, Aux_per hp h7, by omega⟩)) (fun hne => (hne rfl).elim)
set_option maxRecDepth 20000 in
set_option maxHeartbeats 1000000 in
theorem Lc_count {L : Nat} {xs : Nat → Int32} {Qp : Option Value → XW → Prop} {K : Nat → XL → List Value → XW → Prop} {i : Nat} {w : XW} (hi : i + 6 ≤ L) (hL : L ≤ 384) (h : LI (100 * i) w) (hK : ∀ w', LI (100 * i + 600) w' → K 1456 (LLS (nI i)) [] w') : xw 4 (some .boolean) L xs tL (fun _ => none) nL9 g0 cL Qp cuL K 80 1410 (LLS (nI i)) [] w := by
  obtain ⟨s, t, u, A, F, B, G, c, n, k, rfl, h1, h2, h3, h4⟩ := h
  have v1 : vp_in (nI i + Int32.ofInt 1) L := Lv hi hL 1 rfl (by decide)
  refine (And.intro v1 ⟨_, rfl, s, t, u, A, F, B, G, c, n, k, rfl, h1, h2, h3, by omega, fun s t u A9 F9 c9 h5 h6 h7 => ?_⟩)
  refine (And.intro v1 ⟨_, rfl, s, t, u, A9, F9, B, G, n, k, rfl, h1, fun B9 G9 hp => ?_⟩)
  exact And.intro (fun _ => hK _ ((i_count h1 _).elim fun n9 h8 => h8.elim fun k9 h8 => ⟨s, t, u, A9, F9, B9, G9, c9, n9, k9, rfl, CI_per hp h8, Rel_per hp h6, Aux_per hp h7, by omega⟩)) (fun hne => (hne rfl).elim)
set_option maxRecDepth 20000 in
set_option maxHeartbeats 1000000 in
theorem Lc_told {L : Nat} {xs : Nat → Int32} {Qp : Option Value → XW → Prop} {K : Nat → XL → List Value → XW → Prop} {i : Nat} {w : XW} (hi : i + 6 ≤ L) (hL : L ≤ 384) (h : LI (100 * i) w) (hK : ∀ w', LI (100 * i + 600) w' → K 1456 (LLS (nI i)) [] w') : xw 4 (some .boolean) L xs tL (fun _ => none) nL9 g0 cL Qp cuL K 80 1433 (LLS (nI i)) [] w := by
  obtain ⟨s, t, u, A, F, B, G, c, n, k, rfl, h1, h2, h3, h4⟩ := h
  have v1 : vp_in (nI i + Int32.ofInt 1) L := Lv hi hL 1 rfl (by decide)
  refine (And.intro v1 ⟨_, rfl, s, t, u, A, F, B, G, c, n, k, rfl, h1, h2, h3, by omega, fun s t u A9 F9 c9 h5 h6 h7 => ?_⟩)
  refine (And.intro v1 ⟨_, rfl, s, t, u, A9, F9, B, G, n, k, rfl, h1, fun B9 G9 hp => ?_⟩)
  exact And.intro (fun _ => hK _ ((i_told h1 _).elim fun n9 h8 => h8.elim fun k9 h8 => ⟨s, t, u, A9, F9, B9, G9, c9, n9, k9, rfl, CI_per hp h8, Rel_per hp h6, Aux_per hp h7, by omega⟩)) (fun hne => (hne rfl).elim)
