/-! ===== tables of the classes: fields, constants, statics, words of the methods, links ===== -/
theorem xg_nil {own : String} {R : Room} : ∀ n v cnt S, (xlk [] : XG) n = some (v, cnt, S) → xCall own R n v cnt S := fun _ _ _ _ h => by cases h
theorem xg_cons {own : String} {R : Room} {n0 : Nat} {v0 : Bool} {c0 : Nat} {S0 : XS} {l : List (Nat × Bool × Nat × XS)} (h : xCall own R n0 v0 c0 S0) (t : ∀ n v cnt S, (xlk l : XG) n = some (v, cnt, S) → xCall own R n v cnt S) : ∀ n v cnt S, (xlk ((n0, v0, c0, S0) :: l) : XG) n = some (v, cnt, S) → xCall own R n v cnt S := by
  intro n v cnt S h9
  unfold xlk at h9
  cases hb : Nat.beq n0 n with
  | true =>
    rw [hb] at h9
    cases h9
    rw [← Nat.eq_of_beq_eq_true hb]
    exact h
  | false =>
    rw [hb] at h9
    exact t n v cnt S h9
def lw_c : Nat → List Cond
  | 0 => k2_sels lw_privs
  | 1 => tables_1_1
  | 2 => tables_1_2
  | 3 => tables_1_3
  | 4 => tables_1_4
  | 5 => tables_1_5
  | _ => tables_1_6
theorem lw_c_in : ∀ (j : Nat) (w : Cond), w ∈ lw_c j → w ∈ lw_tbl
  | 0, _, h => List.mem_append_left _ h
  | 1, _, h => List.mem_append_right _ (List.mem_append_left _ h)
  | 2, _, h => List.mem_append_right _ (List.mem_append_right _ (List.mem_append_left _ h))
  | 3, _, h => List.mem_append_right _ (List.mem_append_right _ (List.mem_append_right _ (List.mem_append_left _ h)))
  | 4, _, h => List.mem_append_right _ (List.mem_append_right _ (List.mem_append_right _ (List.mem_append_right _ (List.mem_append_left _ h))))
  | 5, _, h => List.mem_append_right _ (List.mem_append_right _ (List.mem_append_right _ (List.mem_append_right _ (List.mem_append_right _ (List.mem_append_left _ h)))))
  | _ + 6, _, h => List.mem_append_right _ (List.mem_append_right _ (List.mem_append_right _ (List.mem_append_right _ (List.mem_append_right _ (List.mem_append_right _ h)))))
def lw_q (j i : Nat) (w : Cond) : Bool := match (lw_c j)[i]? with
  | some x => decide (x = w) && goodWord x
  | none => false
theorem lw_m {w : Cond} (j i : Nat) (h : lw_q j i w = true) : w ∈ lw_g := by
  unfold lw_q at h
  split at h
  · next x e =>
    simp only [Bool.and_eq_true, decide_eq_true_eq] at h
    obtain ⟨rfl, h2⟩ := h
    exact List.mem_filter.mpr ⟨lw_c_in j _ (List.mem_of_getElem? e), h2⟩
  · cases h
theorem xin_of {ws : List Cond} (ps : List (Nat × Nat)) (hl : ws.length = ps.length) (h : (ws.zip ps).all (fun q => lw_q q.2.1 q.2.2 q.1) = true) : ∀ w ∈ ws, w ∈ lw_g := by
  intro w hw
  obtain ⟨j, hj⟩ := List.getElem?_of_mem hw
  have hjl : j < ps.length := by rw [← hl]; exact (List.getElem?_eq_some_iff.mp hj).1
  have h3 : (ws.zip ps)[j]? = some (w, ps[j]) := by
    rw [List.getElem?_zip_eq_some]
    exact ⟨hj, List.getElem?_eq_getElem hjl⟩
  exact lw_m _ _ (List.all_eq_true.mp h _ (List.mem_of_getElem? h3))
def xtb (N : Nat) (t : XT) : XT := fun pc => bif Nat.ble (pc + 1) N then t pc else none
def xtc (cc : ByteArray) (N : Nat) (t : XT) : Bool := (List.range N).all (fun pc => match t pc with
  | some (i, len) => decide (decode cc pc = .ok (i, len)) && xlok i len
  | none => true)
theorem xtb_ok {cc : ByteArray} {N : Nat} {t : XT} (h : xtc cc N t = true) : xTok cc (xtb N t) := by
  intro pc i len h1
  unfold xtb at h1
  cases hb : Nat.ble (pc + 1) N with
  | false => rw [hb] at h1; cases h1
  | true =>
    rw [hb] at h1
    have h2 := List.all_eq_true.mp h pc (List.mem_range.mpr (Nat.le_of_ble_eq_true hb))
    have h1 : t pc = some (i, len) := h1
    rw [h1] at h2
    simp only [Bool.and_eq_true, decide_eq_true_eq] at h2
    exact h2
theorem in_X0 : ∀ w ∈ u_ws RX0 TX0 9, w ∈ lw_g := xin_of [(1, 224), (1, 226), (1, 228), (1, 230), (1, 232), (1, 234), (1, 236), (1, 238), (2, 0)] rfl (by decide +kernel)
theorem in_X1 : ∀ w ∈ u_ws RX1 TX1 17, w ∈ lw_g := xin_of [(1, 104), (1, 106), (1, 108), (1, 110), (1, 112), (1, 114), (1, 116), (1, 118), (1, 120), (1, 122), (1, 124), (1, 126), (1, 128), (1, 130), (1, 132), (1, 134), (1, 136)] rfl (by decide +kernel)
theorem in_X2 : ∀ w ∈ u_ws RX2 TX2 4, w ∈ lw_g := xin_of [(1, 44), (1, 46), (1, 48), (1, 50)] rfl (by decide +kernel)
theorem in_X3 : ∀ w ∈ u_ws RX3 TX3 5, w ∈ lw_g := xin_of [(2, 59), (2, 61), (2, 63), (2, 65), (2, 67)] rfl (by decide +kernel)
theorem in_X4 : ∀ w ∈ u_ws RX4 TX4 10, w ∈ lw_g := xin_of [(1, 185), (1, 187), (1, 189), (1, 191), (1, 193), (1, 195), (1, 197), (1, 199), (1, 201), (1, 203)] rfl (by decide +kernel)
theorem in_X5 : ∀ w ∈ u_ws RX5 TX5 2, w ∈ lw_g := xin_of [(1, 160), (1, 162)] rfl (by decide +kernel)
theorem in_X6 : ∀ w ∈ u_ws RX6 TX6 3, w ∈ lw_g := xin_of [(2, 13), (2, 15), (2, 17)] rfl (by decide +kernel)
theorem in_X7 : ∀ w ∈ u_ws RX7 TX7 1, w ∈ lw_g := xin_of [(1, 148)] rfl (by decide +kernel)
theorem in_X8 : ∀ w ∈ u_ws RX8 TX8 5, w ∈ lw_g := xin_of [(2, 33), (2, 35), (2, 37), (2, 39), (2, 41)] rfl (by decide +kernel)
theorem in_X9 : ∀ w ∈ u_ws RX9 TX9 13, w ∈ lw_g := xin_of [(2, 83), (2, 85), (2, 87), (2, 89), (2, 91), (2, 93), (2, 95), (2, 97), (2, 99), (2, 101), (2, 103), (2, 105), (2, 107)] rfl (by decide +kernel)
theorem in_X10 : ∀ w ∈ u_ws RX10 TX10 30, w ∈ lw_g := xin_of [(5, 23), (5, 25), (5, 27), (5, 29), (5, 31), (5, 33), (5, 35), (5, 37), (5, 39), (5, 41), (5, 43), (5, 45), (5, 47), (5, 49), (5, 51), (5, 53), (5, 55), (5, 57), (5, 59), (5, 61), (5, 63), (5, 65), (5, 67), (5, 69), (5, 71), (5, 73), (5, 75), (5, 77), (5, 79), (5, 81)] rfl (by decide +kernel)
theorem xcls (ci : Nat) (C : String) (T : u_T) (N : Nat) (h : vwCl[ci]? = some (C, T, N)) : (∀ w ∈ u_ws C T N, w ∈ lw_g) ∧ ∃ ty0 : Nat → FieldType, (∀ k, k < N → parseFieldDescriptor (T k).2.2.1 = some (ty0 k)) ∧ (∀ a, a < N → ∀ b, b < N → a ≠ b → (T a).2.1 ≠ (T b).2.1) := by
  match ci, h with
  | 0, h => cases h; exact ⟨in_X0, tyX0, tyX0_ok, nmX0⟩
  | 1, h => cases h; exact ⟨in_X1, tyX1, tyX1_ok, nmX1⟩
  | 2, h => cases h; exact ⟨in_X2, tyX2, tyX2_ok, nmX2⟩
  | 3, h => cases h; exact ⟨in_X3, tyX3, tyX3_ok, nmX3⟩
  | 4, h => cases h; exact ⟨in_X4, tyX4, tyX4_ok, nmX4⟩
  | 5, h => cases h; exact ⟨in_X5, tyX5, tyX5_ok, nmX5⟩
  | 6, h => cases h; exact ⟨in_X6, tyX6, tyX6_ok, nmX6⟩
  | 7, h => cases h; exact ⟨in_X7, tyX7, tyX7_ok, nmX7⟩
  | 8, h => cases h; exact ⟨in_X8, tyX8, tyX8_ok, nmX8⟩
  | 9, h => cases h; exact ⟨in_X9, tyX9, tyX9_ok, nmX9⟩
  | 10, h => cases h; exact ⟨in_X10, tyX10, tyX10_ok, nmX10⟩
  | ci + 11, h => simp [vwCl] at h
def xflc (own : String) (q : Nat × Nat × Nat × FieldType × Bool) (pl : Nat × Nat) : Bool := match vwCl[q.2.1]? with
  | some (_, T, N) => decide (q.2.2.1 < N) && (lw_q pl.1 pl.2 (.fieldLink own q.1 (T q.2.2.1).1 (T q.2.2.1).2.1 (T q.2.2.1).2.2.1) && (((T q.2.2.1).2.2.2 == q.2.2.2.2) && decide (parseFieldDescriptor (T q.2.2.1).2.2.1 = some q.2.2.2.1)))
  | none => false
theorem xfl_ok {own : String} {l : List (Nat × Nat × Nat × FieldType × Bool)} (ps : List (Nat × Nat)) (hl : l.length = ps.length) (h : (l.zip ps).all (fun q => xflc own q.1 q.2) = true) : xFok own (xlk l) := by
  intro n ci f ty fin h1
  have h2 := xlk_mem h1
  obtain ⟨j, hj⟩ := List.getElem?_of_mem h2
  have hjl : j < ps.length := by rw [← hl]; exact (List.getElem?_eq_some_iff.mp hj).1
  have h3 : (l.zip ps)[j]? = some ((n, ci, f, ty, fin), ps[j]) := by
    rw [List.getElem?_zip_eq_some]
    exact ⟨hj, List.getElem?_eq_getElem hjl⟩
  have h4 := List.all_eq_true.mp h _ (List.mem_of_getElem? h3)
  unfold xflc at h4
  dsimp only at h4
  split at h4
  · next C T N hc =>
    simp only [Bool.and_eq_true, decide_eq_true_eq, beq_iff_eq] at h4
    obtain ⟨g1, g2, g3, g4⟩ := h4
    obtain ⟨k1, ty0, k2, k3⟩ := xcls ci C T N hc
    exact ⟨C, T, N, ty0, hc, g1, k1, lw_m _ _ g2, g3, g4, k2, k3⟩
  · cases h4
def lX0 : List (Nat × Nat × Nat × FieldType × Bool) := [(9, 0, 0, .int, false), (15, 0, 1, .int, false), (18, 0, 2, .int, false), (21, 0, 3, .int, false), (24, 0, 4, (.array .int), true), (28, 0, 5, (.array .int), true), (31, 0, 6, (.array .int), true), (34, 0, 7, (.array .int), true), (37, 0, 8, (.array .int), true), (40, 1, 12, .int, false), (45, 1, 11, .int, false), (83, 1, 3, (.array .int), true)]
def fX0 : XF := xlk lX0
theorem fX0_ok : xFok RX0 fX0 := xfl_ok (l := lX0) [(1, 212), (1, 214), (1, 216), (1, 218), (1, 219), (1, 220), (1, 221), (1, 222), (1, 223), (1, 92), (1, 88), (1, 70)] rfl (by decide +kernel)
def qX0 : List (Nat × Value) := []
def nX0 : XK := xlk qX0
theorem nX0_ok : xKok RX0 nX0 := by
  intro n
  refine ⟨fun x h => ?_, fun x h => ?_, fun x h => ?_⟩
  · cases h
  · cases h
  · cases h
def lX1 : List (Nat × Nat × Nat × FieldType × Bool) := [(9, 1, 0, (.array .int), true), (15, 1, 1, (.array .int), true), (18, 1, 2, (.array .int), true), (21, 1, 3, (.array .int), true), (24, 1, 4, (.array .int), true), (27, 1, 5, (.array .int), true), (30, 1, 6, (.array .int), true), (33, 1, 7, (.array .byte), true), (37, 1, 8, (.array .int), true), (43, 1, 9, (.object "RingChoir$Law"), true), (47, 1, 10, (.object "RingChoir$Law"), true), (50, 1, 11, .int, false), (54, 1, 12, .int, false), (57, 1, 13, .int, false), (60, 1, 14, .int, false), (63, 1, 15, .int, false), (66, 1, 16, .int, false)]
def fX1 : XF := xlk lX1
theorem fX1_ok : xFok RX1 fX1 := xfl_ok (l := lX1) [(1, 55), (1, 60), (1, 65), (1, 68), (1, 71), (1, 74), (1, 77), (1, 79), (1, 81), (1, 83), (1, 85), (1, 87), (1, 91), (1, 96), (1, 98), (1, 100), (1, 102)] rfl (by decide +kernel)
def qX1 : List (Nat × Value) := [(89, .int (1103515245))]
def nX1 : XK := xlk qX1
theorem nX1_ok : xKok RX1 nX1 := by
  intro n
  refine ⟨fun x h => ?_, fun x h => ?_, fun x h => ?_⟩
  · have h2 := xlk_mem h
    unfold qX1 at h2
    simp only [List.mem_cons, List.not_mem_nil, or_false, Prod.mk.injEq, Value.int.injEq, Value.long.injEq, Value.retAddr.injEq, reduceCtorEq, and_false, false_or] at h2
    rcases h2 with ⟨rfl, rfl⟩
    · exact lw_m 3 187 (by decide +kernel)
  · have h2 := xlk_mem h
    unfold qX1 at h2
    simp only [List.mem_cons, List.not_mem_nil, or_false, Prod.mk.injEq, Value.int.injEq, Value.long.injEq, Value.retAddr.injEq, reduceCtorEq, and_false, false_or] at h2
  · have h2 := xlk_mem h
    unfold qX1 at h2
    simp only [List.mem_cons, List.not_mem_nil, or_false, Prod.mk.injEq, Value.int.injEq, Value.long.injEq, Value.retAddr.injEq, reduceCtorEq, and_false, false_or] at h2
def lX2 : List (Nat × Nat × Nat × FieldType × Bool) := [(9, 2, 0, (.array .int), true), (15, 2, 1, (.array .int), true), (18, 2, 2, (.array .int), true), (21, 2, 3, .int, false)]
def fX2 : XF := xlk lX2
theorem fX2_ok : xFok RX2 fX2 := xfl_ok (l := lX2) [(1, 40), (1, 41), (1, 42), (1, 43)] rfl (by decide +kernel)
def qX2 : List (Nat × Value) := []
def nX2 : XK := xlk qX2
theorem nX2_ok : xKok RX2 nX2 := by
  intro n
  refine ⟨fun x h => ?_, fun x h => ?_, fun x h => ?_⟩
  · cases h
  · cases h
  · cases h
def lX3 : List (Nat × Nat × Nat × FieldType × Bool) := [(12, 3, 0, (.object "RingChoir$Law"), true), (18, 3, 1, (.array .byte), true), (22, 3, 2, .int, false), (26, 3, 3, .int, false), (31, 3, 4, (.object "java/lang/String"), false)]
def fX3 : XF := xlk lX3
theorem fX3_ok : xFok RX3 fX3 := xfl_ok (l := lX3) [(2, 53), (2, 55), (2, 56), (2, 57), (2, 58)] rfl (by decide +kernel)
def qX3 : List (Nat × Value) := [(29, .retAddr (3)), (41, .retAddr (4))]
def nX3 : XK := xlk qX3
theorem nX3_ok : xKok RX3 nX3 := by
  intro n
  refine ⟨fun x h => ?_, fun x h => ?_, fun x h => ?_⟩
  · have h2 := xlk_mem h
    unfold qX3 at h2
    simp only [List.mem_cons, List.not_mem_nil, or_false, Prod.mk.injEq, Value.int.injEq, Value.long.injEq, Value.retAddr.injEq, reduceCtorEq, and_false, false_or] at h2
  · have h2 := xlk_mem h
    unfold qX3 at h2
    simp only [List.mem_cons, List.not_mem_nil, or_false, Prod.mk.injEq, Value.int.injEq, Value.long.injEq, Value.retAddr.injEq, reduceCtorEq, and_false, false_or] at h2
  · have h2 := xlk_mem h
    unfold qX3 at h2
    simp only [List.mem_cons, List.not_mem_nil, or_false, Prod.mk.injEq, Value.int.injEq, Value.long.injEq, Value.retAddr.injEq, reduceCtorEq, and_false, false_or] at h2
    rcases h2 with ⟨rfl, rfl⟩ | ⟨rfl, rfl⟩
    · exact ⟨_, List.mem_of_getElem? (i := 0) rfl⟩
    · exact ⟨_, List.mem_of_getElem? (i := 1) rfl⟩
def lX4 : List (Nat × Nat × Nat × FieldType × Bool) := [(11, 4, 0, .int, false), (15, 4, 1, .int, false), (18, 4, 2, .int, false), (21, 4, 3, .int, false), (24, 4, 4, (.array .int), true), (28, 4, 5, (.array .int), true), (31, 4, 6, (.array .int), true), (34, 4, 7, (.array .int), true), (37, 4, 8, (.array .int), true), (40, 4, 9, .int, false), (43, 1, 2, (.array .int), true), (69, 1, 12, .int, false), (72, 1, 0, (.array .int), true), (75, 1, 1, (.array .int), true), (82, 1, 11, .int, false)]
def fX4 : XF := xlk lX4
theorem fX4_ok : xFok RX4 fX4 := xfl_ok (l := lX4) [(1, 171), (1, 173), (1, 175), (1, 177), (1, 179), (1, 180), (1, 181), (1, 182), (1, 183), (1, 184), (1, 66), (1, 95), (1, 57), (1, 62), (1, 90)] rfl (by decide +kernel)
def qX4 : List (Nat × Value) := [(68, .int ((-1640531535)))]
def nX4 : XK := xlk qX4
theorem nX4_ok : xKok RX4 nX4 := by
  intro n
  refine ⟨fun x h => ?_, fun x h => ?_, fun x h => ?_⟩
  · have h2 := xlk_mem h
    unfold qX4 at h2
    simp only [List.mem_cons, List.not_mem_nil, or_false, Prod.mk.injEq, Value.int.injEq, Value.long.injEq, Value.retAddr.injEq, reduceCtorEq, and_false, false_or] at h2
    rcases h2 with ⟨rfl, rfl⟩
    · exact lw_m 3 219 (by decide +kernel)
  · have h2 := xlk_mem h
    unfold qX4 at h2
    simp only [List.mem_cons, List.not_mem_nil, or_false, Prod.mk.injEq, Value.int.injEq, Value.long.injEq, Value.retAddr.injEq, reduceCtorEq, and_false, false_or] at h2
  · have h2 := xlk_mem h
    unfold qX4 at h2
    simp only [List.mem_cons, List.not_mem_nil, or_false, Prod.mk.injEq, Value.int.injEq, Value.long.injEq, Value.retAddr.injEq, reduceCtorEq, and_false, false_or] at h2
def lX5 : List (Nat × Nat × Nat × FieldType × Bool) := [(9, 5, 0, (.array .int), false), (15, 5, 1, (.array .int), false)]
def fX5 : XF := xlk lX5
theorem fX5_ok : xFok RX5 fX5 := xfl_ok (l := lX5) [(1, 157), (1, 159)] rfl (by decide +kernel)
def qX5 : List (Nat × Value) := []
def nX5 : XK := xlk qX5
theorem nX5_ok : xKok RX5 nX5 := by
  intro n
  refine ⟨fun x h => ?_, fun x h => ?_, fun x h => ?_⟩
  · cases h
  · cases h
  · cases h
def lX6 : List (Nat × Nat × Nat × FieldType × Bool) := [(9, 6, 0, (.array .int), true), (15, 6, 1, (.array .int), true), (20, 6, 2, (.array (.array .int)), true)]
def fX6 : XF := xlk lX6
theorem fX6_ok : xFok RX6 fX6 := xfl_ok (l := lX6) [(2, 10), (2, 11), (2, 12)] rfl (by decide +kernel)
def qX6 : List (Nat × Value) := []
def nX6 : XK := xlk qX6
theorem nX6_ok : xKok RX6 nX6 := by
  intro n
  refine ⟨fun x h => ?_, fun x h => ?_, fun x h => ?_⟩
  · cases h
  · cases h
  · cases h
def lX7 : List (Nat × Nat × Nat × FieldType × Bool) := [(11, 7, 0, (.array (.array .int)), true), (26, 1, 12, .int, false), (32, 1, 4, (.array .int), true), (36, 1, 5, (.array .int), true), (39, 1, 0, (.array .int), true), (42, 1, 1, (.array .int), true)]
def fX7 : XF := xlk lX7
theorem fX7_ok : xFok RX7 fX7 := xfl_ok (l := lX7) [(1, 147), (1, 94), (1, 72), (1, 75), (1, 59), (1, 63)] rfl (by decide +kernel)
def qX7 : List (Nat × Value) := []
def nX7 : XK := xlk qX7
theorem nX7_ok : xKok RX7 nX7 := by
  intro n
  refine ⟨fun x h => ?_, fun x h => ?_, fun x h => ?_⟩
  · cases h
  · cases h
  · cases h
def lX8 : List (Nat × Nat × Nat × FieldType × Bool) := [(11, 8, 0, (.array .int), true), (15, 8, 1, .int, false), (19, 8, 2, .int, false), (22, 8, 3, .int, false), (25, 8, 4, .int, false), (28, 1, 0, (.array .int), true), (33, 1, 1, (.array .int), true)]
def fX8 : XF := xlk lX8
theorem fX8_ok : xFok RX8 fX8 := xfl_ok (l := lX8) [(2, 26), (2, 28), (2, 30), (2, 31), (2, 32), (1, 56), (1, 61)] rfl (by decide +kernel)
def qX8 : List (Nat × Value) := []
def nX8 : XK := xlk qX8
theorem nX8_ok : xKok RX8 nX8 := by
  intro n
  refine ⟨fun x h => ?_, fun x h => ?_, fun x h => ?_⟩
  · cases h
  · cases h
  · cases h
def lX9 : List (Nat × Nat × Nat × FieldType × Bool) := [(12, 9, 0, (.object "RingChoir$Choir"), true), (16, 9, 1, (.object "RingChoir$Choir"), true), (22, 9, 2, (.object "RingChoir$Steps"), true), (29, 9, 3, (.object "RingChoir$Run"), true), (33, 9, 4, (.object "RingChoir$Run"), true), (39, 9, 5, (.object "RingChoir$Rounds"), true), (46, 9, 6, (.object "RingChoir$AllStates"), true), (53, 9, 7, (.object "RingChoir$Sheets"), true), (60, 9, 8, (.object "RingChoir$Voices"), true), (67, 9, 9, (.object "RingChoir$Reader"), true), (71, 9, 10, (.array .int), true), (75, 9, 11, (.array .int), true), (78, 9, 12, .int, false), (90, 1, 12, .int, false), (93, 1, 2, (.array .int), true), (96, 1, 3, (.array .int), true), (99, 1, 11, .int, false), (121, 1, 0, (.array .int), true), (124, 1, 1, (.array .int), true), (127, 1, 4, (.array .int), true), (130, 1, 5, (.array .int), true), (136, 1, 6, (.array .int), true), (162, 1, 15, .int, false), (165, 1, 7, (.array .byte), true), (173, 1, 9, (.object "RingChoir$Law"), true), (177, 3, 0, (.object "RingChoir$Law"), true), (186, 1, 10, (.object "RingChoir$Law"), true), (199, 1, 13, .int, false), (217, 5, 0, (.array .int), false), (228, 4, 0, .int, false), (231, 4, 1, .int, false), (241, 0, 0, .int, false), (244, 0, 1, .int, false), (261, 0, 2, .int, false), (292, 4, 3, .int, false), (293, 4, 2, .int, false), (296, 1, 14, .int, false), (303, 8, 1, .int, false), (306, 8, 0, (.array .int), true), (329, 1, 16, .int, false), (332, 1, 8, (.array .int), true)]
def fX9 : XF := xlk lX9
theorem fX9_ok : xFok RX9 fX9 := xfl_ok (l := lX9) [(2, 70), (2, 71), (2, 72), (2, 73), (2, 74), (2, 75), (2, 76), (2, 77), (2, 78), (2, 79), (2, 80), (2, 81), (2, 82), (1, 93), (1, 67), (1, 69), (1, 89), (1, 58), (1, 64), (1, 73), (1, 76), (1, 78), (1, 101), (1, 80), (1, 84), (2, 54), (1, 86), (1, 97), (1, 158), (1, 172), (1, 174), (1, 213), (1, 215), (1, 217), (1, 178), (1, 176), (1, 99), (2, 29), (2, 27), (1, 103), (1, 82)] rfl (by decide +kernel)
def qX9 : List (Nat × Value) := [(202, .int (999999)), (338, .int ((-1000000000)))]
def nX9 : XK := xlk qX9
theorem nX9_ok : xKok RX9 nX9 := by
  intro n
  refine ⟨fun x h => ?_, fun x h => ?_, fun x h => ?_⟩
  · have h2 := xlk_mem h
    unfold qX9 at h2
    simp only [List.mem_cons, List.not_mem_nil, or_false, Prod.mk.injEq, Value.int.injEq, Value.long.injEq, Value.retAddr.injEq, reduceCtorEq, and_false, false_or] at h2
    rcases h2 with ⟨rfl, rfl⟩ | ⟨rfl, rfl⟩
    · exact lw_m 3 169 (by decide +kernel)
    · exact lw_m 2 121 (by decide +kernel)
  · have h2 := xlk_mem h
    unfold qX9 at h2
    simp only [List.mem_cons, List.not_mem_nil, or_false, Prod.mk.injEq, Value.int.injEq, Value.long.injEq, Value.retAddr.injEq, reduceCtorEq, and_false, false_or] at h2
  · have h2 := xlk_mem h
    unfold qX9 at h2
    simp only [List.mem_cons, List.not_mem_nil, or_false, Prod.mk.injEq, Value.int.injEq, Value.long.injEq, Value.retAddr.injEq, reduceCtorEq, and_false, false_or] at h2
def lX10 : List (Nat × Nat × Nat × FieldType × Bool) := [(7, 10, 0, (.array .int), true), (13, 10, 1, (.array .int), true), (16, 10, 3, (.array .int), true), (19, 10, 10, (.array .int), true), (22, 10, 11, (.array .int), true), (25, 10, 12, (.array .int), true), (28, 10, 13, (.array .int), true), (31, 10, 14, (.array .int), true), (34, 10, 15, (.array .int), true), (37, 10, 18, (.array .int), true), (40, 10, 19, (.array .int), true), (43, 10, 20, (.array .int), true), (46, 10, 22, (.array .int), true), (49, 10, 23, (.array .int), true), (52, 10, 26, (.array .int), true), (55, 10, 27, (.array .int), true), (58, 10, 28, (.array .int), true), (61, 10, 29, (.array .int), true), (69, 10, 5, .int, false), (73, 10, 6, .int, false), (76, 10, 7, .int, false), (79, 10, 4, .int, false), (86, 10, 9, .boolean, false), (109, 10, 8, .int, false), (211, 10, 16, .int, false), (214, 10, 17, .int, false), (221, 10, 21, .int, false), (260, 10, 24, .int, false), (263, 10, 25, .int, false), (293, 10, 2, .int, false)]
def fX10 : XF := xlk lX10
theorem fX10_ok : xFok RX10 fX10 := xfl_ok (l := lX10) [(4, 233), (4, 234), (4, 236), (5, 3), (5, 4), (5, 5), (5, 6), (5, 7), (5, 8), (5, 11), (5, 12), (5, 13), (5, 15), (5, 16), (5, 19), (5, 20), (5, 21), (5, 22), (4, 238), (4, 239), (5, 0), (4, 237), (5, 2), (5, 1), (5, 9), (5, 10), (5, 14), (5, 17), (5, 18), (4, 235)] rfl (by decide +kernel)
def qX10 : List (Nat × Value) := [(64, .int ((-1000000000))), (122, .long (48)), (124, .long (57)), (126, .long (8)), (131, .long (255)), (145, .long (2)), (147, .long (12)), (156, .long (6)), (158, .long (99)), (166, .long (7)), (182, .long (500)), (184, .int (999999)), (195, .int (1103515245)), (196, .long (100)), (228, .long (60)), (245, .long (11)), (247, .long (200)), (287, .long (3)), (299, .long (5))]
def nX10 : XK := xlk qX10
theorem nX10_ok : xKok RX10 nX10 := by
  intro n
  refine ⟨fun x h => ?_, fun x h => ?_, fun x h => ?_⟩
  · have h2 := xlk_mem h
    unfold qX10 at h2
    simp only [List.mem_cons, List.not_mem_nil, or_false, Prod.mk.injEq, Value.int.injEq, Value.long.injEq, Value.retAddr.injEq, reduceCtorEq, and_false, false_or] at h2
    rcases h2 with ⟨rfl, rfl⟩ | ⟨rfl, rfl⟩ | ⟨rfl, rfl⟩
    · exact lw_m 5 96 (by decide +kernel)
    · exact lw_m 5 233 (by decide +kernel)
    · exact lw_m 6 19 (by decide +kernel)
  · have h2 := xlk_mem h
    unfold qX10 at h2
    simp only [List.mem_cons, List.not_mem_nil, or_false, Prod.mk.injEq, Value.int.injEq, Value.long.injEq, Value.retAddr.injEq, reduceCtorEq, and_false, false_or] at h2
    rcases h2 with ⟨rfl, rfl⟩ | ⟨rfl, rfl⟩ | ⟨rfl, rfl⟩ | ⟨rfl, rfl⟩ | ⟨rfl, rfl⟩ | ⟨rfl, rfl⟩ | ⟨rfl, rfl⟩ | ⟨rfl, rfl⟩ | ⟨rfl, rfl⟩ | ⟨rfl, rfl⟩ | ⟨rfl, rfl⟩ | ⟨rfl, rfl⟩ | ⟨rfl, rfl⟩ | ⟨rfl, rfl⟩ | ⟨rfl, rfl⟩ | ⟨rfl, rfl⟩
    · exact lw_m 5 146 (by decide +kernel)
    · exact lw_m 5 147 (by decide +kernel)
    · exact lw_m 5 88 (by decide +kernel)
    · exact lw_m 5 97 (by decide +kernel)
    · exact lw_m 5 164 (by decide +kernel)
    · exact lw_m 5 165 (by decide +kernel)
    · exact lw_m 5 174 (by decide +kernel)
    · exact lw_m 5 175 (by decide +kernel)
    · exact lw_m 5 192 (by decide +kernel)
    · exact lw_m 5 232 (by decide +kernel)
    · exact lw_m 6 14 (by decide +kernel)
    · exact lw_m 6 56 (by decide +kernel)
    · exact lw_m 6 109 (by decide +kernel)
    · exact lw_m 6 110 (by decide +kernel)
    · exact lw_m 5 227 (by decide +kernel)
    · exact lw_m 6 217 (by decide +kernel)
  · have h2 := xlk_mem h
    unfold qX10 at h2
    simp only [List.mem_cons, List.not_mem_nil, or_false, Prod.mk.injEq, Value.int.injEq, Value.long.injEq, Value.retAddr.injEq, reduceCtorEq, and_false, false_or] at h2
def g0 : XH := fun _ _ => none
theorem g0_ok {own : String} : xGok own g0 := ⟨fun _ _ h => (by cases h), fun _ _ _ h => (by cases h)⟩
def qsX9 : List (Nat × Value) := [(339, .retAddr 0)]
def gX9 : XH := fun c n => match c with
  | 0 => xlk qsX9 n
  | _ => none
theorem gX9_ok : xGok RX9 gX9 := by
  refine ⟨fun n v h => ?_, fun c n v h => ?_⟩
  · have h2 := xlk_mem h
    unfold qsX9 at h2
    simp only [List.mem_cons, List.not_mem_nil, or_false, Prod.mk.injEq] at h2
    rcases h2 with ⟨rfl, rfl⟩
    · exact ⟨_, List.mem_of_getElem? (i := 0) rfl, rfl, rfl, Or.inl (lw_m 2 209 (by decide +kernel))⟩
  · cases h
def qsX8 : List (Nat × Value) := [(44, .retAddr 0), (47, .retAddr 1)]
def gX8 : XH := fun c n => match c with
  | 0 => xlk qsX8 n
  | _ => none
theorem gX8_ok : xGok RX8 gX8 := by
  refine ⟨fun n v h => ?_, fun c n v h => ?_⟩
  · have h2 := xlk_mem h
    unfold qsX8 at h2
    simp only [List.mem_cons, List.not_mem_nil, or_false, Prod.mk.injEq] at h2
    rcases h2 with ⟨rfl, rfl⟩ | ⟨rfl, rfl⟩
    · exact ⟨_, List.mem_of_getElem? (i := 0) rfl, rfl, rfl, Or.inr rfl⟩
    · exact ⟨_, List.mem_of_getElem? (i := 1) rfl, rfl, rfl, Or.inl (lw_m 4 149 (by decide +kernel))⟩
  · cases h
def qsJ0 : List (Nat × Value) := [(38, .int 1)]
def qfJ0_3 : List (Nat × Value) := [(9, .retAddr 5), (15, .int 0)]
def qfJ0_4 : List (Nat × Value) := [(9, .retAddr 6), (15, .int 0)]
def gJ0 : XH := fun c n => match c with
  | 0 => xlk qsJ0 n
  | 4 => xlk qfJ0_3 n
  | 5 => xlk qfJ0_4 n
  | _ => none
theorem gJ0_ok : xGok RJ0 gJ0 := by
  refine ⟨fun n v h => ?_, fun c n v h => ?_⟩
  · have h2 := xlk_mem h
    unfold qsJ0 at h2
    simp only [List.mem_cons, List.not_mem_nil, or_false, Prod.mk.injEq] at h2
    rcases h2 with ⟨rfl, rfl⟩
    · exact ⟨_, List.mem_of_getElem? (i := 2) rfl, rfl, rfl, Or.inl (lw_m 3 79 (by decide +kernel))⟩
  · match c, h with
    | 0, h => cases h
    | 1, h => cases h
    | 2, h => cases h
    | 3, h =>
      have h2 := xlk_mem h
      unfold qfJ0_3 at h2
      simp only [List.mem_cons, List.not_mem_nil, or_false, Prod.mk.injEq] at h2
      rcases h2 with ⟨rfl, rfl⟩ | ⟨rfl, rfl⟩
      · exact ⟨_, List.mem_of_getElem? (i := 1) rfl, rfl, rfl, rfl, lw_m 6 220 (by decide +kernel)⟩
      · exact ⟨_, List.mem_of_getElem? (i := 0) rfl, rfl, rfl, rfl, lw_m 6 219 (by decide +kernel)⟩
    | 4, h =>
      have h2 := xlk_mem h
      unfold qfJ0_4 at h2
      simp only [List.mem_cons, List.not_mem_nil, or_false, Prod.mk.injEq] at h2
      rcases h2 with ⟨rfl, rfl⟩ | ⟨rfl, rfl⟩
      · exact ⟨_, List.mem_of_getElem? (i := 3) rfl, rfl, rfl, rfl, lw_m 6 220 (by decide +kernel)⟩
      · exact ⟨_, List.mem_of_getElem? (i := 2) rfl, rfl, rfl, rfl, lw_m 6 219 (by decide +kernel)⟩
    | c + 5, h => cases h
def xMV (y : MethodName) (b : ByteArray) (nL : Nat) (rt : Option FieldType) (cnt : Nat) : Prop := Cond.instanceMethod y ∈ lw_g ∧ Cond.selects y.cls y y ∈ lw_g ∧ Cond.initialized y.cls ∈ lw_g ∧ Cond.code y b nL rt ∈ lw_g ∧ (y.cls ≠ "java/lang/invoke/MethodHandle" ∧ y.cls ≠ "java/lang/invoke/VarHandle" ∧ (parseMethodDescriptor y.desc).map (fun d => d.parameters.length) = some cnt) ∧ nL ≤ 21
def xMS (y : MethodName) (b : ByteArray) (nL : Nat) (rt : Option FieldType) (cnt : Nat) : Prop := Cond.static y ∈ lw_g ∧ Cond.initialized y.cls ∈ lw_g ∧ Cond.code y b nL rt ∈ lw_g ∧ (y.cls ≠ "java/lang/invoke/MethodHandle" ∧ y.cls ≠ "java/lang/invoke/VarHandle" ∧ (parseMethodDescriptor y.desc).map (fun d => d.parameters.length) = some cnt) ∧ nL ≤ 21
theorem xcallV {own : String} {R : Room} {y : MethodName} {b : ByteArray} {nL' : Nat} {rt : Option FieldType} {d : Nat} {S : XS} {n cnt : Nat} (ci : Nat) {T : u_T} {N : Nat} (hw : xMV y b nL' rt cnt) (hc : vwCl[ci]? = some (y.cls, T, N)) (w1 : Cond.methodLink own n y ∈ lw_g) (hM : xCT d y b nL' rt S) (hR : d + 1 ≤ R.frames ∧ 40 * d + 40 ≤ R.locals) : xCall own R n true (cnt + 1) (xrcv ci S) := xcall_V hM hc w1 hw.1 hw.2.1 hw.2.2.1 hw.2.2.2.1 hw.2.2.2.2.1 hw.2.2.2.2.2 hR
theorem xcallS {own : String} {R : Room} {y : MethodName} {b : ByteArray} {nL' : Nat} {rt : Option FieldType} {d : Nat} {S : XS} {n cnt : Nat} (hw : xMS y b nL' rt cnt) (w1 : Cond.methodLink own n y ∈ lw_g) (hM : xCT d y b nL' rt S) (hR : d + 1 ≤ R.frames ∧ 40 * d + 40 ≤ R.locals) : xCall own R n false cnt S := xcall_S hM w1 hw.1 hw.2.1 hw.2.2.1 hw.2.2.2.1 hw.2.2.2.2 hR
theorem w_X0_fill : xMV yX0_fill cX0_fill 4 (some .boolean) 2 := ⟨lw_m 3 226 (by decide +kernel), lw_m 3 227 (by decide +kernel), lw_m 1 7 (by decide +kernel), lw_m 3 228 (by decide +kernel), by decide +kernel, by decide⟩
theorem w_X0_toNextState : xMV yX0_toNextState cX0_toNextState 3 none 1 := ⟨lw_m 3 234 (by decide +kernel), lw_m 0 13 (by decide +kernel), lw_m 1 7 (by decide +kernel), lw_m 3 235 (by decide +kernel), by decide +kernel, by decide⟩
theorem w_X0_after : xMV yX0_after cX0_after 5 (some .int) 2 := ⟨lw_m 4 6 (by decide +kernel), lw_m 0 15 (by decide +kernel), lw_m 1 7 (by decide +kernel), lw_m 4 7 (by decide +kernel), by decide +kernel, by decide⟩
theorem w_X0_find : xMV yX0_find cX0_find 2 none 1 := ⟨lw_m 4 13 (by decide +kernel), lw_m 0 16 (by decide +kernel), lw_m 1 7 (by decide +kernel), lw_m 4 14 (by decide +kernel), by decide +kernel, by decide⟩
theorem w_X0_findNone : xMV yX0_findNone cX0_findNone 1 none 0 := ⟨lw_m 4 2 (by decide +kernel), lw_m 0 14 (by decide +kernel), lw_m 1 7 (by decide +kernel), lw_m 4 3 (by decide +kernel), by decide +kernel, by decide⟩
theorem w_X0_findWished : xMV yX0_findWished cX0_findWished 4 none 2 := ⟨lw_m 3 237 (by decide +kernel), lw_m 3 238 (by decide +kernel), lw_m 1 7 (by decide +kernel), lw_m 3 239 (by decide +kernel), by decide +kernel, by decide⟩
theorem w_X0_isWished : xMS yX0_isWished cX0_isWished 4 (some .boolean) 2 := ⟨lw_m 4 9 (by decide +kernel), lw_m 1 7 (by decide +kernel), lw_m 4 10 (by decide +kernel), by decide +kernel, by decide⟩
theorem w_X0_worthiest : xMV yX0_worthiest cX0_worthiest 7 (some .int) 2 := ⟨lw_m 4 20 (by decide +kernel), lw_m 4 21 (by decide +kernel), lw_m 1 7 (by decide +kernel), lw_m 4 22 (by decide +kernel), by decide +kernel, by decide⟩
theorem w_X0_weighNotes : xMV yX0_weighNotes cX0_weighNotes 4 none 1 := ⟨lw_m 4 25 (by decide +kernel), lw_m 0 17 (by decide +kernel), lw_m 1 7 (by decide +kernel), lw_m 4 26 (by decide +kernel), by decide +kernel, by decide⟩
theorem w_X0_worthOfState : xMV yX0_worthOfState cX0_worthOfState 6 (some .int) 2 := ⟨lw_m 4 30 (by decide +kernel), lw_m 0 18 (by decide +kernel), lw_m 1 7 (by decide +kernel), lw_m 4 31 (by decide +kernel), by decide +kernel, by decide⟩
theorem w_X0_findAhead : xMV yX0_findAhead cX0_findAhead 3 none 1 := ⟨lw_m 4 37 (by decide +kernel), lw_m 4 38 (by decide +kernel), lw_m 1 7 (by decide +kernel), lw_m 4 39 (by decide +kernel), by decide +kernel, by decide⟩
theorem w_X0_behindNone : xMV yX0_behindNone cX0_behindNone 3 (some .int) 0 := ⟨lw_m 4 45 (by decide +kernel), lw_m 4 46 (by decide +kernel), lw_m 1 7 (by decide +kernel), lw_m 4 47 (by decide +kernel), by decide +kernel, by decide⟩
theorem w_X0_findRounds : xMV yX0_findRounds cX0_findRounds 4 none 0 := ⟨lw_m 4 53 (by decide +kernel), lw_m 4 54 (by decide +kernel), lw_m 1 7 (by decide +kernel), lw_m 4 55 (by decide +kernel), by decide +kernel, by decide⟩
theorem w_X0_roundFrom : xMV yX0_roundFrom cX0_roundFrom 4 (some .int) 1 := ⟨lw_m 4 58 (by decide +kernel), lw_m 0 19 (by decide +kernel), lw_m 1 7 (by decide +kernel), lw_m 4 59 (by decide +kernel), by decide +kernel, by decide⟩
theorem w_X1_has : xMV yX1_has cX1_has 2 (some .boolean) 1 := ⟨lw_m 2 154 (by decide +kernel), lw_m 2 155 (by decide +kernel), lw_m 1 2 (by decide +kernel), lw_m 2 156 (by decide +kernel), by decide +kernel, by decide⟩
theorem w_X1_join : xMV yX1_join cX1_join 4 (some .int) 2 := ⟨lw_m 2 141 (by decide +kernel), lw_m 2 142 (by decide +kernel), lw_m 1 2 (by decide +kernel), lw_m 2 143 (by decide +kernel), by decide +kernel, by decide⟩
theorem w_X1_hearAsInRing : xMV yX1_hearAsInRing cX1_hearAsInRing 2 none 0 := ⟨lw_m 2 145 (by decide +kernel), lw_m 2 146 (by decide +kernel), lw_m 1 2 (by decide +kernel), lw_m 2 147 (by decide +kernel), by decide +kernel, by decide⟩
theorem w_X1_wishing : xMV yX1_wishing cX1_wishing 3 (some .int) 0 := ⟨lw_m 4 220 (by decide +kernel), lw_m 4 221 (by decide +kernel), lw_m 1 2 (by decide +kernel), lw_m 4 222 (by decide +kernel), by decide +kernel, by decide⟩
theorem w_X1_countedRound : xMV yX1_countedRound cX1_countedRound 4 (some .int) 1 := ⟨lw_m 2 195 (by decide +kernel), lw_m 2 196 (by decide +kernel), lw_m 1 2 (by decide +kernel), lw_m 2 197 (by decide +kernel), by decide +kernel, by decide⟩
theorem w_X1_sumOf : xMV yX1_sumOf cX1_sumOf 7 (some .long) 5 := ⟨lw_m 2 177 (by decide +kernel), lw_m 2 178 (by decide +kernel), lw_m 1 2 (by decide +kernel), lw_m 2 179 (by decide +kernel), by decide +kernel, by decide⟩
theorem w_X1_worthOf : xMV yX1_worthOf cX1_worthOf 4 (some .int) 2 := ⟨lw_m 3 161 (by decide +kernel), lw_m 3 162 (by decide +kernel), lw_m 1 2 (by decide +kernel), lw_m 3 163 (by decide +kernel), by decide +kernel, by decide⟩
theorem w_X1_stateOf : xMV yX1_stateOf cX1_stateOf 4 (some .int) 1 := ⟨lw_m 3 202 (by decide +kernel), lw_m 3 203 (by decide +kernel), lw_m 1 2 (by decide +kernel), lw_m 3 204 (by decide +kernel), by decide +kernel, by decide⟩
theorem w_X1_draw : xMV yX1_draw cX1_draw 1 (some .int) 0 := ⟨lw_m 3 184 (by decide +kernel), lw_m 3 185 (by decide +kernel), lw_m 1 2 (by decide +kernel), lw_m 3 186 (by decide +kernel), by decide +kernel, by decide⟩
theorem w_X1_slip : xMV yX1_slip cX1_slip 3 none 1 := ⟨lw_m 3 180 (by decide +kernel), lw_m 3 181 (by decide +kernel), lw_m 1 2 (by decide +kernel), lw_m 3 182 (by decide +kernel), by decide +kernel, by decide⟩
theorem w_X1_copyFrom : xMV yX1_copyFrom cX1_copyFrom 2 none 1 := ⟨lw_m 4 198 (by decide +kernel), lw_m 4 199 (by decide +kernel), lw_m 1 2 (by decide +kernel), lw_m 4 200 (by decide +kernel), by decide +kernel, by decide⟩
theorem w_X2_isMissing : xMV yX2_isMissing cX2_isMissing 1 (some .boolean) 0 := ⟨lw_m 2 184 (by decide +kernel), lw_m 2 185 (by decide +kernel), lw_m 1 3 (by decide +kernel), lw_m 2 186 (by decide +kernel), by decide +kernel, by decide⟩
theorem w_X2_clear : xMV yX2_clear cX2_clear 1 none 0 := ⟨lw_m 3 21 (by decide +kernel), lw_m 3 22 (by decide +kernel), lw_m 1 3 (by decide +kernel), lw_m 3 23 (by decide +kernel), by decide +kernel, by decide⟩
theorem w_X2_add : xMV yX2_add cX2_add 2 none 1 := ⟨lw_m 3 60 (by decide +kernel), lw_m 3 61 (by decide +kernel), lw_m 1 3 (by decide +kernel), lw_m 3 62 (by decide +kernel), by decide +kernel, by decide⟩
theorem w_X2_copyFrom : xMV yX2_copyFrom cX2_copyFrom 2 none 1 := ⟨lw_m 3 150 (by decide +kernel), lw_m 3 151 (by decide +kernel), lw_m 1 3 (by decide +kernel), lw_m 3 152 (by decide +kernel), by decide +kernel, by decide⟩
theorem w_X2_valueOf : xMV yX2_valueOf cX2_valueOf 8 (some .int) 4 := ⟨lw_m 2 188 (by decide +kernel), lw_m 2 189 (by decide +kernel), lw_m 1 3 (by decide +kernel), lw_m 2 190 (by decide +kernel), by decide +kernel, by decide⟩
theorem w_X2_joined : xMS yX2_joined cX2_joined 3 (some .int) 3 := ⟨lw_m 2 192 (by decide +kernel), lw_m 1 3 (by decide +kernel), lw_m 2 193 (by decide +kernel), by decide +kernel, by decide⟩
theorem w_X3_faultOf : xMV yX3_faultOf cX3_faultOf 4 (some .int) 3 := ⟨lw_m 3 15 (by decide +kernel), lw_m 3 16 (by decide +kernel), lw_m 1 10 (by decide +kernel), lw_m 3 17 (by decide +kernel), by decide +kernel, by decide⟩
theorem w_X3_sign : xMV yX3_sign cX3_sign 1 (some .int) 0 := ⟨lw_m 3 50 (by decide +kernel), lw_m 0 8 (by decide +kernel), lw_m 1 10 (by decide +kernel), lw_m 3 51 (by decide +kernel), by decide +kernel, by decide⟩
theorem w_X3_readEither : xMV yX3_readEither cX3_readEither 4 (some .boolean) 1 := ⟨lw_m 3 26 (by decide +kernel), lw_m 0 2 (by decide +kernel), lw_m 1 10 (by decide +kernel), lw_m 3 27 (by decide +kernel), by decide +kernel, by decide⟩
theorem w_X3_readBoth : xMV yX3_readBoth cX3_readBoth 4 (some .boolean) 1 := ⟨lw_m 3 30 (by decide +kernel), lw_m 0 3 (by decide +kernel), lw_m 1 10 (by decide +kernel), lw_m 3 31 (by decide +kernel), by decide +kernel, by decide⟩
theorem w_X3_readCompared : xMV yX3_readCompared cX3_readCompared 4 (some .boolean) 1 := ⟨lw_m 3 34 (by decide +kernel), lw_m 0 4 (by decide +kernel), lw_m 1 10 (by decide +kernel), lw_m 3 35 (by decide +kernel), by decide +kernel, by decide⟩
theorem w_X3_readSum : xMV yX3_readSum cX3_readSum 5 (some .boolean) 1 := ⟨lw_m 3 38 (by decide +kernel), lw_m 0 5 (by decide +kernel), lw_m 1 10 (by decide +kernel), lw_m 3 39 (by decide +kernel), by decide +kernel, by decide⟩
theorem w_X3_readProduct : xMV yX3_readProduct cX3_readProduct 5 (some .boolean) 1 := ⟨lw_m 3 42 (by decide +kernel), lw_m 0 6 (by decide +kernel), lw_m 1 10 (by decide +kernel), lw_m 3 43 (by decide +kernel), by decide +kernel, by decide⟩
theorem w_X3_readPart : xMV yX3_readPart cX3_readPart 4 (some .boolean) 1 := ⟨lw_m 3 46 (by decide +kernel), lw_m 0 7 (by decide +kernel), lw_m 1 10 (by decide +kernel), lw_m 3 47 (by decide +kernel), by decide +kernel, by decide⟩
theorem w_X3_readOpened : xMV yX3_readOpened cX3_readOpened 4 (some .boolean) 2 := ⟨lw_m 3 65 (by decide +kernel), lw_m 0 10 (by decide +kernel), lw_m 1 10 (by decide +kernel), lw_m 3 66 (by decide +kernel), by decide +kernel, by decide⟩
theorem w_X3_readNumber : xMV yX3_readNumber cX3_readNumber 3 none 0 := ⟨lw_m 3 57 (by decide +kernel), lw_m 0 9 (by decide +kernel), lw_m 1 10 (by decide +kernel), lw_m 3 58 (by decide +kernel), by decide +kernel, by decide⟩
theorem w_X3_isDigit : xMS yX3_isDigit cX3_isDigit 1 (some .boolean) 1 := ⟨lw_m 3 53 (by decide +kernel), lw_m 1 10 (by decide +kernel), lw_m 3 54 (by decide +kernel), by decide +kernel, by decide⟩
theorem w_X4_comesRound : xMV yX4_comesRound cX4_comesRound 5 (some .boolean) 2 := ⟨lw_m 3 210 (by decide +kernel), lw_m 3 211 (by decide +kernel), lw_m 1 6 (by decide +kernel), lw_m 3 212 (by decide +kernel), by decide +kernel, by decide⟩
theorem w_X4_barOf : xMV yX4_barOf cX4_barOf 5 (some .int) 2 := ⟨lw_m 3 217 (by decide +kernel), lw_m 0 12 (by decide +kernel), lw_m 1 6 (by decide +kernel), lw_m 3 218 (by decide +kernel), by decide +kernel, by decide⟩
theorem w_X4_findLongest : xMV yX4_findLongest cX4_findLongest 9 none 2 := ⟨lw_m 4 116 (by decide +kernel), lw_m 4 117 (by decide +kernel), lw_m 1 6 (by decide +kernel), lw_m 4 118 (by decide +kernel), by decide +kernel, by decide⟩
theorem w_X4_usesNumber : xMS yX4_usesNumber cX4_usesNumber 1 (some .boolean) 1 := ⟨lw_m 4 120 (by decide +kernel), lw_m 1 6 (by decide +kernel), lw_m 4 121 (by decide +kernel), by decide +kernel, by decide⟩
theorem w_X4_keepLonger : xMV yX4_keepLonger cX4_keepLonger 3 none 2 := ⟨lw_m 4 126 (by decide +kernel), lw_m 0 26 (by decide +kernel), lw_m 1 6 (by decide +kernel), lw_m 4 127 (by decide +kernel), by decide +kernel, by decide⟩
theorem w_X5_startFrom : xMV yX5_startFrom cX5_startFrom 2 none 1 := ⟨lw_m 2 162 (by decide +kernel), lw_m 2 163 (by decide +kernel), lw_m 1 5 (by decide +kernel), lw_m 2 164 (by decide +kernel), by decide +kernel, by decide⟩
theorem w_X5_goOn : xMV yX5_goOn cX5_goOn 6 none 3 := ⟨lw_m 2 169 (by decide +kernel), lw_m 2 170 (by decide +kernel), lw_m 1 5 (by decide +kernel), lw_m 2 171 (by decide +kernel), by decide +kernel, by decide⟩
theorem w_X5_unlike : xMV yX5_unlike cX5_unlike 5 (some .int) 2 := ⟨lw_m 4 92 (by decide +kernel), lw_m 4 93 (by decide +kernel), lw_m 1 5 (by decide +kernel), lw_m 4 94 (by decide +kernel), by decide +kernel, by decide⟩
theorem w_X6_isMissing : xMV yX6_isMissing cX6_isMissing 2 (some .boolean) 1 := ⟨lw_m 2 232 (by decide +kernel), lw_m 2 233 (by decide +kernel), lw_m 1 8 (by decide +kernel), lw_m 2 234 (by decide +kernel), by decide +kernel, by decide⟩
theorem w_X6_size : xMV yX6_size cX6_size 2 (some .int) 1 := ⟨lw_m 2 236 (by decide +kernel), lw_m 2 237 (by decide +kernel), lw_m 1 8 (by decide +kernel), lw_m 2 238 (by decide +kernel), by decide +kernel, by decide⟩
theorem w_X6_number : xMV yX6_number cX6_number 3 (some .int) 2 := ⟨lw_m 3 3 (by decide +kernel), lw_m 3 4 (by decide +kernel), lw_m 1 8 (by decide +kernel), lw_m 3 5 (by decide +kernel), by decide +kernel, by decide⟩
theorem w_X6_areAlike : xMV yX6_areAlike cX6_areAlike 3 (some .boolean) 2 := ⟨lw_m 4 181 (by decide +kernel), lw_m 4 182 (by decide +kernel), lw_m 1 8 (by decide +kernel), lw_m 4 183 (by decide +kernel), by decide +kernel, by decide⟩
theorem w_X6_stand : xMV yX6_stand cX6_stand 4 (some .boolean) 3 := ⟨lw_m 4 185 (by decide +kernel), lw_m 4 186 (by decide +kernel), lw_m 1 8 (by decide +kernel), lw_m 4 187 (by decide +kernel), by decide +kernel, by decide⟩
theorem w_X6_lay : xMV yX6_lay cX6_lay 4 none 3 := ⟨lw_m 4 164 (by decide +kernel), lw_m 4 165 (by decide +kernel), lw_m 1 8 (by decide +kernel), lw_m 4 166 (by decide +kernel), by decide +kernel, by decide⟩
theorem w_X6_write : xMV yX6_write cX6_write 4 none 3 := ⟨lw_m 4 173 (by decide +kernel), lw_m 4 174 (by decide +kernel), lw_m 1 8 (by decide +kernel), lw_m 4 175 (by decide +kernel), by decide +kernel, by decide⟩
theorem w_X6_carry : xMV yX6_carry cX6_carry 6 none 5 := ⟨lw_m 4 189 (by decide +kernel), lw_m 4 190 (by decide +kernel), lw_m 1 8 (by decide +kernel), lw_m 4 191 (by decide +kernel), by decide +kernel, by decide⟩
theorem w_X7_forget : xMV yX7_forget cX7_forget 2 none 1 := ⟨lw_m 2 127 (by decide +kernel), lw_m 2 128 (by decide +kernel), lw_m 1 4 (by decide +kernel), lw_m 2 129 (by decide +kernel), by decide +kernel, by decide⟩
theorem w_X7_forgetAll : xMV yX7_forgetAll cX7_forgetAll 2 none 0 := ⟨lw_m 2 123 (by decide +kernel), lw_m 2 124 (by decide +kernel), lw_m 1 4 (by decide +kernel), lw_m 2 125 (by decide +kernel), by decide +kernel, by decide⟩
theorem w_X7_step : xMV yX7_step cX7_step 10 none 3 := ⟨lw_m 2 173 (by decide +kernel), lw_m 2 174 (by decide +kernel), lw_m 1 4 (by decide +kernel), lw_m 2 175 (by decide +kernel), by decide +kernel, by decide⟩
theorem w_X8_sound : xMV yX8_sound cX8_sound 5 (some .int) 4 := ⟨lw_m 4 137 (by decide +kernel), lw_m 4 138 (by decide +kernel), lw_m 1 9 (by decide +kernel), lw_m 4 139 (by decide +kernel), by decide +kernel, by decide⟩
theorem w_X8_own : xMV yX8_own cX8_own 4 (some .int) 3 := ⟨lw_m 4 142 (by decide +kernel), lw_m 0 27 (by decide +kernel), lw_m 1 9 (by decide +kernel), lw_m 4 143 (by decide +kernel), by decide +kernel, by decide⟩
theorem w_X8_from : xMV yX8_from cX8_from 7 (some .int) 4 := ⟨lw_m 4 146 (by decide +kernel), lw_m 0 28 (by decide +kernel), lw_m 1 9 (by decide +kernel), lw_m 4 147 (by decide +kernel), by decide +kernel, by decide⟩
theorem w_X8_perform : xMV yX8_perform cX8_perform 5 (some .int) 4 := ⟨lw_m 4 153 (by decide +kernel), lw_m 0 29 (by decide +kernel), lw_m 1 9 (by decide +kernel), lw_m 4 154 (by decide +kernel), by decide +kernel, by decide⟩
theorem w_X9_notes : xMV yX9_notes cX9_notes 3 (some .int) 1 := ⟨lw_m 2 111 (by decide +kernel), lw_m 2 112 (by decide +kernel), lw_m 1 1 (by decide +kernel), lw_m 2 113 (by decide +kernel), by decide +kernel, by decide⟩
theorem w_X9_singer : xMV yX9_singer cX9_singer 4 (some .int) 2 := ⟨lw_m 2 134 (by decide +kernel), lw_m 2 135 (by decide +kernel), lw_m 1 1 (by decide +kernel), lw_m 2 136 (by decide +kernel), by decide +kernel, by decide⟩
theorem w_X9_ofSinger : xMV yX9_ofSinger cX9_ofSinger 3 (some .int) 2 := ⟨lw_m 2 150 (by decide +kernel), lw_m 2 151 (by decide +kernel), lw_m 1 1 (by decide +kernel), lw_m 2 152 (by decide +kernel), by decide +kernel, by decide⟩
theorem w_X9_rule : xMV yX9_rule cX9_rule 5 (some .int) 3 := ⟨lw_m 2 199 (by decide +kernel), lw_m 2 200 (by decide +kernel), lw_m 1 1 (by decide +kernel), lw_m 2 201 (by decide +kernel), by decide +kernel, by decide⟩
theorem w_X9_as : xMV yX9_as cX9_as 3 (some .int) 2 := ⟨lw_m 2 203 (by decide +kernel), lw_m 2 204 (by decide +kernel), lw_m 1 1 (by decide +kernel), lw_m 2 205 (by decide +kernel), by decide +kernel, by decide⟩
theorem w_X9_net : xMV yX9_net cX9_net 4 (some .int) 3 := ⟨lw_m 2 212 (by decide +kernel), lw_m 2 213 (by decide +kernel), lw_m 1 1 (by decide +kernel), lw_m 2 214 (by decide +kernel), by decide +kernel, by decide⟩
theorem w_X9_ring : xMV yX9_ring cX9_ring 3 (some .int) 1 := ⟨lw_m 2 216 (by decide +kernel), lw_m 2 217 (by decide +kernel), lw_m 1 1 (by decide +kernel), lw_m 2 218 (by decide +kernel), by decide +kernel, by decide⟩
theorem w_X9_sing : xMV yX9_sing cX9_sing 6 (some .int) 3 := ⟨lw_m 2 221 (by decide +kernel), lw_m 2 222 (by decide +kernel), lw_m 1 1 (by decide +kernel), lw_m 2 223 (by decide +kernel), by decide +kernel, by decide⟩
theorem w_X9_begin : xMV yX9_begin cX9_begin 4 (some .int) 1 := ⟨lw_m 2 225 (by decide +kernel), lw_m 2 226 (by decide +kernel), lw_m 1 1 (by decide +kernel), lw_m 2 227 (by decide +kernel), by decide +kernel, by decide⟩
theorem w_X9_feed : xMV yX9_feed cX9_feed 5 (some .int) 2 := ⟨lw_m 3 7 (by decide +kernel), lw_m 3 8 (by decide +kernel), lw_m 1 1 (by decide +kernel), lw_m 3 9 (by decide +kernel), by decide +kernel, by decide⟩
theorem w_X9_text : xMV yX9_text cX9_text 3 (some .int) 1 := ⟨lw_m 3 11 (by decide +kernel), lw_m 3 12 (by decide +kernel), lw_m 1 1 (by decide +kernel), lw_m 3 13 (by decide +kernel), by decide +kernel, by decide⟩
theorem w_X9_law : xMV yX9_law cX9_law 6 (some .int) 5 := ⟨lw_m 3 155 (by decide +kernel), lw_m 3 156 (by decide +kernel), lw_m 1 1 (by decide +kernel), lw_m 3 157 (by decide +kernel), by decide +kernel, by decide⟩
theorem w_X9_bars : xMV yX9_bars cX9_bars 2 (some .int) 1 := ⟨lw_m 3 166 (by decide +kernel), lw_m 3 167 (by decide +kernel), lw_m 1 1 (by decide +kernel), lw_m 3 168 (by decide +kernel), by decide +kernel, by decide⟩
theorem w_X9_loose : xMV yX9_loose cX9_loose 4 (some .int) 2 := ⟨lw_m 3 176 (by decide +kernel), lw_m 3 177 (by decide +kernel), lw_m 1 1 (by decide +kernel), lw_m 3 178 (by decide +kernel), by decide +kernel, by decide⟩
theorem w_X9_far : xMV yX9_far cX9_far 3 (some .int) 2 := ⟨lw_m 3 190 (by decide +kernel), lw_m 3 191 (by decide +kernel), lw_m 1 1 (by decide +kernel), lw_m 3 192 (by decide +kernel), by decide +kernel, by decide⟩
theorem w_X9_worths : xMV yX9_worths cX9_worths 4 (some .int) 1 := ⟨lw_m 3 194 (by decide +kernel), lw_m 3 195 (by decide +kernel), lw_m 1 1 (by decide +kernel), lw_m 3 196 (by decide +kernel), by decide +kernel, by decide⟩
theorem w_X9_state : xMV yX9_state cX9_state 1 (some .long) 0 := ⟨lw_m 3 198 (by decide +kernel), lw_m 3 199 (by decide +kernel), lw_m 1 1 (by decide +kernel), lw_m 3 200 (by decide +kernel), by decide +kernel, by decide⟩
theorem w_X9_round : xMV yX9_round cX9_round 2 (some .int) 1 := ⟨lw_m 3 206 (by decide +kernel), lw_m 3 207 (by decide +kernel), lw_m 1 1 (by decide +kernel), lw_m 3 208 (by decide +kernel), by decide +kernel, by decide⟩
theorem w_X9_beginnings : xMV yX9_beginnings cX9_beginnings 3 (some .int) 2 := ⟨lw_m 3 222 (by decide +kernel), lw_m 3 223 (by decide +kernel), lw_m 1 1 (by decide +kernel), lw_m 3 224 (by decide +kernel), by decide +kernel, by decide⟩
theorem w_X9_best : xMV yX9_best cX9_best 2 (some .int) 1 := ⟨lw_m 4 16 (by decide +kernel), lw_m 4 17 (by decide +kernel), lw_m 1 1 (by decide +kernel), lw_m 4 18 (by decide +kernel), by decide +kernel, by decide⟩
theorem w_X9_before : xMV yX9_before cX9_before 2 (some .int) 1 := ⟨lw_m 4 33 (by decide +kernel), lw_m 4 34 (by decide +kernel), lw_m 1 1 (by decide +kernel), lw_m 4 35 (by decide +kernel), by decide +kernel, by decide⟩
theorem w_X9_never : xMV yX9_never cX9_never 1 (some .int) 0 := ⟨lw_m 4 41 (by decide +kernel), lw_m 4 42 (by decide +kernel), lw_m 1 1 (by decide +kernel), lw_m 4 43 (by decide +kernel), by decide +kernel, by decide⟩
theorem w_X9_rings : xMV yX9_rings cX9_rings 2 (some .int) 1 := ⟨lw_m 4 49 (by decide +kernel), lw_m 4 50 (by decide +kernel), lw_m 1 1 (by decide +kernel), lw_m 4 51 (by decide +kernel), by decide +kernel, by decide⟩
theorem w_X9_fewest : xMV yX9_fewest cX9_fewest 4 (some .int) 1 := ⟨lw_m 4 62 (by decide +kernel), lw_m 4 63 (by decide +kernel), lw_m 1 1 (by decide +kernel), lw_m 4 64 (by decide +kernel), by decide +kernel, by decide⟩
theorem w_X9_made : xMV yX9_made cX9_made 6 (some .int) 2 := ⟨lw_m 4 72 (by decide +kernel), lw_m 4 73 (by decide +kernel), lw_m 1 1 (by decide +kernel), lw_m 4 74 (by decide +kernel), by decide +kernel, by decide⟩
theorem w_X9_heard : xMV yX9_heard cX9_heard 4 (some .int) 3 := ⟨lw_m 4 80 (by decide +kernel), lw_m 4 81 (by decide +kernel), lw_m 1 1 (by decide +kernel), lw_m 4 82 (by decide +kernel), by decide +kernel, by decide⟩
theorem w_X9_gone : xMV yX9_gone cX9_gone 4 (some .int) 2 := ⟨lw_m 4 96 (by decide +kernel), lw_m 4 97 (by decide +kernel), lw_m 1 1 (by decide +kernel), lw_m 4 98 (by decide +kernel), by decide +kernel, by decide⟩
theorem w_X9_tune : xMV yX9_tune cX9_tune 4 (some .int) 1 := ⟨lw_m 4 100 (by decide +kernel), lw_m 4 101 (by decide +kernel), lw_m 1 1 (by decide +kernel), lw_m 4 102 (by decide +kernel), by decide +kernel, by decide⟩
theorem w_X9_longer : xMV yX9_longer cX9_longer 2 (some .int) 1 := ⟨lw_m 4 112 (by decide +kernel), lw_m 4 113 (by decide +kernel), lw_m 1 1 (by decide +kernel), lw_m 4 114 (by decide +kernel), by decide +kernel, by decide⟩
theorem w_X9_seed : xMV yX9_seed cX9_seed 3 (some .int) 1 := ⟨lw_m 4 129 (by decide +kernel), lw_m 4 130 (by decide +kernel), lw_m 1 1 (by decide +kernel), lw_m 4 131 (by decide +kernel), by decide +kernel, by decide⟩
theorem w_X9_voice : xMV yX9_voice cX9_voice 4 (some .int) 3 := ⟨lw_m 4 133 (by decide +kernel), lw_m 4 134 (by decide +kernel), lw_m 1 1 (by decide +kernel), lw_m 4 135 (by decide +kernel), by decide +kernel, by decide⟩
theorem w_X9_trace : xMV yX9_trace cX9_trace 2 (some .int) 1 := ⟨lw_m 4 156 (by decide +kernel), lw_m 4 157 (by decide +kernel), lw_m 1 1 (by decide +kernel), lw_m 4 158 (by decide +kernel), by decide +kernel, by decide⟩
theorem w_X9_sheet : xMV yX9_sheet cX9_sheet 4 (some .int) 3 := ⟨lw_m 4 160 (by decide +kernel), lw_m 4 161 (by decide +kernel), lw_m 1 1 (by decide +kernel), lw_m 4 162 (by decide +kernel), by decide +kernel, by decide⟩
theorem w_X9_put : xMV yX9_put cX9_put 4 (some .int) 3 := ⟨lw_m 4 169 (by decide +kernel), lw_m 4 170 (by decide +kernel), lw_m 1 1 (by decide +kernel), lw_m 4 171 (by decide +kernel), by decide +kernel, by decide⟩
theorem w_X9_move : xMV yX9_move cX9_move 6 (some .int) 5 := ⟨lw_m 4 177 (by decide +kernel), lw_m 4 178 (by decide +kernel), lw_m 1 1 (by decide +kernel), lw_m 4 179 (by decide +kernel), by decide +kernel, by decide⟩
theorem w_X9_image : xMV yX9_image cX9_image 1 (some .int) 0 := ⟨lw_m 4 194 (by decide +kernel), lw_m 4 195 (by decide +kernel), lw_m 1 1 (by decide +kernel), lw_m 4 196 (by decide +kernel), by decide +kernel, by decide⟩
theorem w_X9_restore : xMV yX9_restore cX9_restore 1 (some .int) 0 := ⟨lw_m 4 204 (by decide +kernel), lw_m 4 205 (by decide +kernel), lw_m 1 1 (by decide +kernel), lw_m 4 206 (by decide +kernel), by decide +kernel, by decide⟩
theorem w_X9_tell : xMV yX9_tell cX9_tell 2 (some .int) 1 := ⟨lw_m 4 208 (by decide +kernel), lw_m 4 209 (by decide +kernel), lw_m 1 1 (by decide +kernel), lw_m 4 210 (by decide +kernel), by decide +kernel, by decide⟩
theorem w_X9_check : xMV yX9_check cX9_check 4 (some .int) 1 := ⟨lw_m 4 212 (by decide +kernel), lw_m 4 213 (by decide +kernel), lw_m 1 1 (by decide +kernel), lw_m 4 214 (by decide +kernel), by decide +kernel, by decide⟩
theorem w_X9_count : xMV yX9_count cX9_count 2 (some .int) 1 := ⟨lw_m 4 216 (by decide +kernel), lw_m 4 217 (by decide +kernel), lw_m 1 1 (by decide +kernel), lw_m 4 218 (by decide +kernel), by decide +kernel, by decide⟩
theorem w_X9_told : xMV yX9_told cX9_told 2 (some .int) 1 := ⟨lw_m 4 224 (by decide +kernel), lw_m 4 225 (by decide +kernel), lw_m 1 1 (by decide +kernel), lw_m 4 226 (by decide +kernel), by decide +kernel, by decide⟩
theorem w_X9_fail : xMV yX9_fail cX9_fail 2 (some .int) 1 := ⟨lw_m 2 119 (by decide +kernel), lw_m 0 0 (by decide +kernel), lw_m 1 1 (by decide +kernel), lw_m 2 120 (by decide +kernel), by decide +kernel, by decide⟩
theorem w_X9_within : xMS yX9_within cX9_within 3 (some .boolean) 3 := ⟨lw_m 2 115 (by decide +kernel), lw_m 1 1 (by decide +kernel), lw_m 2 116 (by decide +kernel), by decide +kernel, by decide⟩
theorem w_X9_isRule : xMS yX9_isRule cX9_isRule 2 (some .boolean) 2 := ⟨lw_m 2 138 (by decide +kernel), lw_m 1 1 (by decide +kernel), lw_m 2 139 (by decide +kernel), by decide +kernel, by decide⟩
theorem w_X9_isSheet : xMS yX9_isSheet cX9_isSheet 1 (some .boolean) 1 := ⟨lw_m 2 229 (by decide +kernel), lw_m 1 1 (by decide +kernel), lw_m 2 230 (by decide +kernel), by decide +kernel, by decide⟩
theorem w_X9_isUnder : xMS yX9_isUnder cX9_isUnder 4 (some .boolean) 2 := ⟨lw_m 2 207 (by decide +kernel), lw_m 1 1 (by decide +kernel), lw_m 2 208 (by decide +kernel), by decide +kernel, by decide⟩
theorem w_X9_noteAhead : xMV yX9_noteAhead cX9_noteAhead 3 (some .int) 2 := ⟨lw_m 2 159 (by decide +kernel), lw_m 0 1 (by decide +kernel), lw_m 1 1 (by decide +kernel), lw_m 2 160 (by decide +kernel), by decide +kernel, by decide⟩
theorem w_X9_goBy : xMV yX9_goBy cX9_goBy 2 none 1 := ⟨lw_m 3 172 (by decide +kernel), lw_m 0 11 (by decide +kernel), lw_m 1 1 (by decide +kernel), lw_m 3 173 (by decide +kernel), by decide +kernel, by decide⟩
theorem w_X9_isCough : xMV yX9_isCough cX9_isCough 3 (some .boolean) 2 := ⟨lw_m 4 85 (by decide +kernel), lw_m 0 22 (by decide +kernel), lw_m 1 1 (by decide +kernel), lw_m 4 86 (by decide +kernel), by decide +kernel, by decide⟩
theorem w_X9_startCough : xMV yX9_startCough cX9_startCough 3 none 2 := ⟨lw_m 4 89 (by decide +kernel), lw_m 0 23 (by decide +kernel), lw_m 1 1 (by decide +kernel), lw_m 4 90 (by decide +kernel), by decide +kernel, by decide⟩
theorem w_X9_isOdd : xMV yX9_isOdd cX9_isOdd 11 (some .boolean) 4 := ⟨lw_m 4 67 (by decide +kernel), lw_m 0 20 (by decide +kernel), lw_m 1 1 (by decide +kernel), lw_m 4 68 (by decide +kernel), by decide +kernel, by decide⟩
theorem w_X9_firstMaking : xMV yX9_firstMaking cX9_firstMaking 5 (some .int) 2 := ⟨lw_m 4 77 (by decide +kernel), lw_m 0 21 (by decide +kernel), lw_m 1 1 (by decide +kernel), lw_m 4 78 (by decide +kernel), by decide +kernel, by decide⟩
theorem w_X9_writeTuneNotes : xMV yX9_writeTuneNotes cX9_writeTuneNotes 3 none 1 := ⟨lw_m 4 105 (by decide +kernel), lw_m 0 24 (by decide +kernel), lw_m 1 1 (by decide +kernel), lw_m 4 106 (by decide +kernel), by decide +kernel, by decide⟩
theorem w_X9_goesBy : xMV yX9_goesBy cX9_goesBy 5 (some .boolean) 3 := ⟨lw_m 4 109 (by decide +kernel), lw_m 0 25 (by decide +kernel), lw_m 1 1 (by decide +kernel), lw_m 4 110 (by decide +kernel), by decide +kernel, by decide⟩
theorem w_X10_finds : xMV yX10_finds cX10_finds 2 (some .int) 1 := ⟨lw_m 5 94 (by decide +kernel), lw_m 0 30 (by decide +kernel), lw_m 1 11 (by decide +kernel), lw_m 5 95 (by decide +kernel), by decide +kernel, by decide⟩
theorem w_X10_in : xMS yX10_in cX10_in 6 (some .boolean) 3 := ⟨lw_m 5 90 (by decide +kernel), lw_m 1 11 (by decide +kernel), lw_m 5 91 (by decide +kernel), by decide +kernel, by decide⟩
theorem w_X10_copies : xMS yX10_copies cX10_copies 3 none 2 := ⟨lw_m 6 191 (by decide +kernel), lw_m 1 11 (by decide +kernel), lw_m 6 192 (by decide +kernel), by decide +kernel, by decide⟩
theorem w_X10_isSinger : xMV yX10_isSinger cX10_isSinger 2 (some .boolean) 1 := ⟨lw_m 5 190 (by decide +kernel), lw_m 0 47 (by decide +kernel), lw_m 1 11 (by decide +kernel), lw_m 5 191 (by decide +kernel), by decide +kernel, by decide⟩
theorem w_X10_its : xMV yX10_its cX10_its 3 (some .int) 2 := ⟨lw_m 5 168 (by decide +kernel), lw_m 0 44 (by decide +kernel), lw_m 1 11 (by decide +kernel), lw_m 5 169 (by decide +kernel), by decide +kernel, by decide⟩
theorem w_X10_becomes : xMV yX10_becomes cX10_becomes 4 none 3 := ⟨lw_m 5 178 (by decide +kernel), lw_m 0 45 (by decide +kernel), lw_m 1 11 (by decide +kernel), lw_m 5 179 (by decide +kernel), by decide +kernel, by decide⟩
theorem w_X10_here : xMV yX10_here cX10_here 1 (some .int) 0 := ⟨lw_m 5 132 (by decide +kernel), lw_m 0 38 (by decide +kernel), lw_m 1 11 (by decide +kernel), lw_m 5 133 (by decide +kernel), by decide +kernel, by decide⟩
theorem w_X10_wrong : xMV yX10_wrong cX10_wrong 1 (some .int) 0 := ⟨lw_m 5 136 (by decide +kernel), lw_m 0 39 (by decide +kernel), lw_m 1 11 (by decide +kernel), lw_m 5 137 (by decide +kernel), by decide +kernel, by decide⟩
theorem w_X10_takes : xMV yX10_takes cX10_takes 2 (some .boolean) 1 := ⟨lw_m 5 140 (by decide +kernel), lw_m 0 40 (by decide +kernel), lw_m 1 11 (by decide +kernel), lw_m 5 141 (by decide +kernel), by decide +kernel, by decide⟩
theorem w_X10_nameOf : xMV yX10_nameOf cX10_nameOf 2 (some .int) 1 := ⟨lw_m 5 144 (by decide +kernel), lw_m 0 41 (by decide +kernel), lw_m 1 11 (by decide +kernel), lw_m 5 145 (by decide +kernel), by decide +kernel, by decide⟩
theorem w_X10_either : xMV yX10_either cX10_either 3 (some .int) 0 := ⟨lw_m 5 108 (by decide +kernel), lw_m 0 32 (by decide +kernel), lw_m 1 11 (by decide +kernel), lw_m 5 109 (by decide +kernel), by decide +kernel, by decide⟩
theorem w_X10_both : xMV yX10_both cX10_both 3 (some .int) 0 := ⟨lw_m 5 112 (by decide +kernel), lw_m 0 33 (by decide +kernel), lw_m 1 11 (by decide +kernel), lw_m 5 113 (by decide +kernel), by decide +kernel, by decide⟩
theorem w_X10_compared : xMV yX10_compared cX10_compared 4 (some .int) 0 := ⟨lw_m 5 116 (by decide +kernel), lw_m 0 34 (by decide +kernel), lw_m 1 11 (by decide +kernel), lw_m 5 117 (by decide +kernel), by decide +kernel, by decide⟩
theorem w_X10_sum : xMV yX10_sum cX10_sum 4 (some .int) 0 := ⟨lw_m 5 120 (by decide +kernel), lw_m 0 35 (by decide +kernel), lw_m 1 11 (by decide +kernel), lw_m 5 121 (by decide +kernel), by decide +kernel, by decide⟩
theorem w_X10_product : xMV yX10_product cX10_product 4 (some .int) 0 := ⟨lw_m 5 124 (by decide +kernel), lw_m 0 36 (by decide +kernel), lw_m 1 11 (by decide +kernel), lw_m 5 125 (by decide +kernel), by decide +kernel, by decide⟩
theorem w_X10_unit : xMV yX10_unit cX10_unit 5 (some .int) 0 := ⟨lw_m 5 128 (by decide +kernel), lw_m 0 37 (by decide +kernel), lw_m 1 11 (by decide +kernel), lw_m 5 129 (by decide +kernel), by decide +kernel, by decide⟩
theorem w_X10_worked : xMV yX10_worked cX10_worked 5 (some .int) 3 := ⟨lw_m 5 104 (by decide +kernel), lw_m 0 31 (by decide +kernel), lw_m 1 11 (by decide +kernel), lw_m 5 105 (by decide +kernel), by decide +kernel, by decide⟩
theorem w_X10_feed : xMV yX10_feed cX10_feed 5 (some .int) 2 := ⟨lw_m 5 85 (by decide +kernel), lw_m 5 86 (by decide +kernel), lw_m 1 11 (by decide +kernel), lw_m 5 87 (by decide +kernel), by decide +kernel, by decide⟩
theorem w_X10_text : xMV yX10_text cX10_text 5 (some .int) 1 := ⟨lw_m 5 99 (by decide +kernel), lw_m 5 100 (by decide +kernel), lw_m 1 11 (by decide +kernel), lw_m 5 101 (by decide +kernel), by decide +kernel, by decide⟩
theorem w_X10_adds : xMV yX10_adds cX10_adds 5 (some .int) 4 := ⟨lw_m 5 154 (by decide +kernel), lw_m 0 42 (by decide +kernel), lw_m 1 11 (by decide +kernel), lw_m 5 155 (by decide +kernel), by decide +kernel, by decide⟩
theorem w_X10_worth : xMV yX10_worth cX10_worth 4 (some .int) 2 := ⟨lw_m 5 158 (by decide +kernel), lw_m 0 43 (by decide +kernel), lw_m 1 11 (by decide +kernel), lw_m 5 159 (by decide +kernel), by decide +kernel, by decide⟩
theorem w_X10_law : xMV yX10_law cX10_law 6 (some .int) 5 := ⟨lw_m 5 149 (by decide +kernel), lw_m 5 150 (by decide +kernel), lw_m 1 11 (by decide +kernel), lw_m 5 151 (by decide +kernel), by decide +kernel, by decide⟩
theorem w_X10_notes : xMV yX10_notes cX10_notes 3 (some .int) 1 := ⟨lw_m 5 161 (by decide +kernel), lw_m 5 162 (by decide +kernel), lw_m 1 11 (by decide +kernel), lw_m 5 163 (by decide +kernel), by decide +kernel, by decide⟩
theorem w_X10_hearRing : xMV yX10_hearRing cX10_hearRing 3 none 0 := ⟨lw_m 5 182 (by decide +kernel), lw_m 0 46 (by decide +kernel), lw_m 1 11 (by decide +kernel), lw_m 5 183 (by decide +kernel), by decide +kernel, by decide⟩
theorem w_X10_singer : xMV yX10_singer cX10_singer 4 (some .int) 2 := ⟨lw_m 5 171 (by decide +kernel), lw_m 5 172 (by decide +kernel), lw_m 1 11 (by decide +kernel), lw_m 5 173 (by decide +kernel), by decide +kernel, by decide⟩
theorem w_X10_next : xMV yX10_next cX10_next 10 (some .int) 3 := ⟨lw_m 5 195 (by decide +kernel), lw_m 0 48 (by decide +kernel), lw_m 1 11 (by decide +kernel), lw_m 5 196 (by decide +kernel), by decide +kernel, by decide⟩
theorem w_X10_ofSinger : xMV yX10_ofSinger cX10_ofSinger 3 (some .int) 2 := ⟨lw_m 5 185 (by decide +kernel), lw_m 5 186 (by decide +kernel), lw_m 1 11 (by decide +kernel), lw_m 5 187 (by decide +kernel), by decide +kernel, by decide⟩
theorem w_X10_rule : xMV yX10_rule cX10_rule 5 (some .int) 3 := ⟨lw_m 5 198 (by decide +kernel), lw_m 5 199 (by decide +kernel), lw_m 1 11 (by decide +kernel), lw_m 5 200 (by decide +kernel), by decide +kernel, by decide⟩
theorem w_X10_isOf : xMS yX10_isOf cX10_isOf 2 (some .boolean) 2 := ⟨lw_m 5 206 (by decide +kernel), lw_m 1 11 (by decide +kernel), lw_m 5 207 (by decide +kernel), by decide +kernel, by decide⟩
theorem w_X10_as : xMV yX10_as cX10_as 3 (some .int) 2 := ⟨lw_m 5 202 (by decide +kernel), lw_m 5 203 (by decide +kernel), lw_m 1 11 (by decide +kernel), lw_m 5 204 (by decide +kernel), by decide +kernel, by decide⟩
theorem w_X10_net : xMV yX10_net cX10_net 4 (some .int) 3 := ⟨lw_m 5 209 (by decide +kernel), lw_m 5 210 (by decide +kernel), lw_m 1 11 (by decide +kernel), lw_m 5 211 (by decide +kernel), by decide +kernel, by decide⟩
theorem w_X10_ring : xMV yX10_ring cX10_ring 3 (some .int) 1 := ⟨lw_m 5 213 (by decide +kernel), lw_m 5 214 (by decide +kernel), lw_m 1 11 (by decide +kernel), lw_m 5 215 (by decide +kernel), by decide +kernel, by decide⟩
theorem w_X10_sing : xMV yX10_sing cX10_sing 6 (some .int) 3 := ⟨lw_m 5 217 (by decide +kernel), lw_m 5 218 (by decide +kernel), lw_m 1 11 (by decide +kernel), lw_m 5 219 (by decide +kernel), by decide +kernel, by decide⟩
theorem w_X10_begin : xMV yX10_begin cX10_begin 3 (some .int) 1 := ⟨lw_m 5 221 (by decide +kernel), lw_m 5 222 (by decide +kernel), lw_m 1 11 (by decide +kernel), lw_m 5 223 (by decide +kernel), by decide +kernel, by decide⟩
theorem w_X10_begins : xMV yX10_begins cX10_begins 3 none 1 := ⟨lw_m 5 236 (by decide +kernel), lw_m 0 49 (by decide +kernel), lw_m 1 11 (by decide +kernel), lw_m 5 237 (by decide +kernel), by decide +kernel, by decide⟩
theorem w_X10_goesBy : xMV yX10_goesBy cX10_goesBy 3 none 1 := ⟨lw_m 6 4 (by decide +kernel), lw_m 0 51 (by decide +kernel), lw_m 1 11 (by decide +kernel), lw_m 6 5 (by decide +kernel), by decide +kernel, by decide⟩
theorem w_X10_goesOn : xMV yX10_goesOn cX10_goesOn 4 none 2 := ⟨lw_m 6 0 (by decide +kernel), lw_m 0 50 (by decide +kernel), lw_m 1 11 (by decide +kernel), lw_m 6 1 (by decide +kernel), by decide +kernel, by decide⟩
theorem w_X10_ends : xMV yX10_ends cX10_ends 3 none 1 := ⟨lw_m 6 8 (by decide +kernel), lw_m 0 52 (by decide +kernel), lw_m 1 11 (by decide +kernel), lw_m 6 9 (by decide +kernel), by decide +kernel, by decide⟩
theorem w_X10_bars : xMV yX10_bars cX10_bars 2 (some .int) 1 := ⟨lw_m 5 229 (by decide +kernel), lw_m 5 230 (by decide +kernel), lw_m 1 11 (by decide +kernel), lw_m 5 231 (by decide +kernel), by decide +kernel, by decide⟩
theorem w_X10_drawn : xMV yX10_drawn cX10_drawn 1 (some .int) 0 := ⟨lw_m 6 17 (by decide +kernel), lw_m 0 53 (by decide +kernel), lw_m 1 11 (by decide +kernel), lw_m 6 18 (by decide +kernel), by decide +kernel, by decide⟩
theorem w_X10_loose : xMV yX10_loose cX10_loose 5 (some .int) 2 := ⟨lw_m 6 11 (by decide +kernel), lw_m 6 12 (by decide +kernel), lw_m 1 11 (by decide +kernel), lw_m 6 13 (by decide +kernel), by decide +kernel, by decide⟩
theorem w_X10_far : xMV yX10_far cX10_far 3 (some .int) 2 := ⟨lw_m 6 21 (by decide +kernel), lw_m 6 22 (by decide +kernel), lw_m 1 11 (by decide +kernel), lw_m 6 23 (by decide +kernel), by decide +kernel, by decide⟩
theorem w_X10_worthsOf : xMV yX10_worthsOf cX10_worthsOf 4 (some .int) 1 := ⟨lw_m 6 30 (by decide +kernel), lw_m 0 54 (by decide +kernel), lw_m 1 11 (by decide +kernel), lw_m 6 31 (by decide +kernel), by decide +kernel, by decide⟩
theorem w_X10_worths : xMV yX10_worths cX10_worths 2 (some .int) 1 := ⟨lw_m 6 25 (by decide +kernel), lw_m 6 26 (by decide +kernel), lw_m 1 11 (by decide +kernel), lw_m 6 27 (by decide +kernel), by decide +kernel, by decide⟩
theorem w_X10_numberOf : xMV yX10_numberOf cX10_numberOf 4 (some .int) 1 := ⟨lw_m 6 38 (by decide +kernel), lw_m 0 55 (by decide +kernel), lw_m 1 11 (by decide +kernel), lw_m 6 39 (by decide +kernel), by decide +kernel, by decide⟩
theorem w_X10_state : xMV yX10_state cX10_state 1 (some .long) 0 := ⟨lw_m 6 33 (by decide +kernel), lw_m 6 34 (by decide +kernel), lw_m 1 11 (by decide +kernel), lw_m 6 35 (by decide +kernel), by decide +kernel, by decide⟩
theorem w_X10_placeOf : xMV yX10_placeOf cX10_placeOf 3 (some .int) 1 := ⟨lw_m 6 50 (by decide +kernel), lw_m 0 57 (by decide +kernel), lw_m 1 11 (by decide +kernel), lw_m 6 51 (by decide +kernel), by decide +kernel, by decide⟩
theorem w_X10_findRound : xMV yX10_findRound cX10_findRound 4 (some .boolean) 0 := ⟨lw_m 6 46 (by decide +kernel), lw_m 0 56 (by decide +kernel), lw_m 1 11 (by decide +kernel), lw_m 6 47 (by decide +kernel), by decide +kernel, by decide⟩
theorem w_X10_round : xMV yX10_round cX10_round 2 (some .int) 1 := ⟨lw_m 6 41 (by decide +kernel), lw_m 6 42 (by decide +kernel), lw_m 1 11 (by decide +kernel), lw_m 6 43 (by decide +kernel), by decide +kernel, by decide⟩
theorem w_X10_lays : xMV yX10_lays cX10_lays 4 none 1 := ⟨lw_m 6 63 (by decide +kernel), lw_m 0 59 (by decide +kernel), lw_m 1 11 (by decide +kernel), lw_m 6 64 (by decide +kernel), by decide +kernel, by decide⟩
theorem w_X10_findAll : xMV yX10_findAll cX10_findAll 2 (some .boolean) 0 := ⟨lw_m 6 59 (by decide +kernel), lw_m 0 58 (by decide +kernel), lw_m 1 11 (by decide +kernel), lw_m 6 60 (by decide +kernel), by decide +kernel, by decide⟩
theorem w_X10_findAt : xMV yX10_findAt cX10_findAt 5 none 1 := ⟨lw_m 6 67 (by decide +kernel), lw_m 0 60 (by decide +kernel), lw_m 1 11 (by decide +kernel), lw_m 6 68 (by decide +kernel), by decide +kernel, by decide⟩
theorem w_X10_isWished : xMV yX10_isWished cX10_isWished 3 (some .boolean) 1 := ⟨lw_m 6 71 (by decide +kernel), lw_m 0 61 (by decide +kernel), lw_m 1 11 (by decide +kernel), lw_m 6 72 (by decide +kernel), by decide +kernel, by decide⟩
theorem w_X10_beginnings : xMV yX10_beginnings cX10_beginnings 7 (some .int) 2 := ⟨lw_m 6 53 (by decide +kernel), lw_m 6 54 (by decide +kernel), lw_m 1 11 (by decide +kernel), lw_m 6 55 (by decide +kernel), by decide +kernel, by decide⟩
theorem w_X10_best : xMV yX10_best cX10_best 6 (some .int) 1 := ⟨lw_m 6 74 (by decide +kernel), lw_m 6 75 (by decide +kernel), lw_m 1 11 (by decide +kernel), lw_m 6 76 (by decide +kernel), by decide +kernel, by decide⟩
theorem w_X10_before : xMV yX10_before cX10_before 6 (some .int) 1 := ⟨lw_m 6 78 (by decide +kernel), lw_m 6 79 (by decide +kernel), lw_m 1 11 (by decide +kernel), lw_m 6 80 (by decide +kernel), by decide +kernel, by decide⟩
theorem w_X10_clears : xMV yX10_clears cX10_clears 2 none 0 := ⟨lw_m 6 87 (by decide +kernel), lw_m 0 62 (by decide +kernel), lw_m 1 11 (by decide +kernel), lw_m 6 88 (by decide +kernel), by decide +kernel, by decide⟩
theorem w_X10_never : xMV yX10_never cX10_never 3 (some .int) 0 := ⟨lw_m 6 82 (by decide +kernel), lw_m 6 83 (by decide +kernel), lw_m 1 11 (by decide +kernel), lw_m 6 84 (by decide +kernel), by decide +kernel, by decide⟩
theorem w_X10_rings : xMV yX10_rings cX10_rings 8 (some .int) 1 := ⟨lw_m 6 90 (by decide +kernel), lw_m 6 91 (by decide +kernel), lw_m 1 11 (by decide +kernel), lw_m 6 92 (by decide +kernel), by decide +kernel, by decide⟩
theorem w_X10_sings : xMV yX10_sings cX10_sings 8 (some .boolean) 2 := ⟨lw_m 6 99 (by decide +kernel), lw_m 0 63 (by decide +kernel), lw_m 1 11 (by decide +kernel), lw_m 6 100 (by decide +kernel), by decide +kernel, by decide⟩
theorem w_X10_fewest : xMV yX10_fewest cX10_fewest 4 (some .int) 1 := ⟨lw_m 6 94 (by decide +kernel), lw_m 6 95 (by decide +kernel), lw_m 1 11 (by decide +kernel), lw_m 6 96 (by decide +kernel), by decide +kernel, by decide⟩
theorem w_X10_made : xMV yX10_made cX10_made 7 (some .int) 2 := ⟨lw_m 6 102 (by decide +kernel), lw_m 6 103 (by decide +kernel), lw_m 1 11 (by decide +kernel), lw_m 6 104 (by decide +kernel), by decide +kernel, by decide⟩
theorem w_X10_coughs : xMV yX10_coughs cX10_coughs 3 none 2 := ⟨lw_m 6 113 (by decide +kernel), lw_m 0 64 (by decide +kernel), lw_m 1 11 (by decide +kernel), lw_m 6 114 (by decide +kernel), by decide +kernel, by decide⟩
theorem w_X10_others : xMV yX10_others cX10_others 3 (some .int) 0 := ⟨lw_m 6 117 (by decide +kernel), lw_m 0 65 (by decide +kernel), lw_m 1 11 (by decide +kernel), lw_m 6 118 (by decide +kernel), by decide +kernel, by decide⟩
theorem w_X10_heard : xMV yX10_heard cX10_heard 4 (some .int) 3 := ⟨lw_m 6 106 (by decide +kernel), lw_m 6 107 (by decide +kernel), lw_m 1 11 (by decide +kernel), lw_m 6 108 (by decide +kernel), by decide +kernel, by decide⟩
theorem w_X10_gone : xMV yX10_gone cX10_gone 4 (some .int) 2 := ⟨lw_m 6 120 (by decide +kernel), lw_m 6 121 (by decide +kernel), lw_m 1 11 (by decide +kernel), lw_m 6 122 (by decide +kernel), by decide +kernel, by decide⟩
theorem w_X10_isTune : xMV yX10_isTune cX10_isTune 5 (some .boolean) 3 := ⟨lw_m 6 129 (by decide +kernel), lw_m 0 66 (by decide +kernel), lw_m 1 11 (by decide +kernel), lw_m 6 130 (by decide +kernel), by decide +kernel, by decide⟩
theorem w_X10_tune : xMV yX10_tune cX10_tune 4 (some .int) 1 := ⟨lw_m 6 124 (by decide +kernel), lw_m 6 125 (by decide +kernel), lw_m 1 11 (by decide +kernel), lw_m 6 126 (by decide +kernel), by decide +kernel, by decide⟩
theorem w_X10_longer : xMV yX10_longer cX10_longer 8 (some .int) 1 := ⟨lw_m 6 132 (by decide +kernel), lw_m 6 133 (by decide +kernel), lw_m 1 11 (by decide +kernel), lw_m 6 134 (by decide +kernel), by decide +kernel, by decide⟩
theorem w_X10_seed : xMV yX10_seed cX10_seed 3 (some .int) 1 := ⟨lw_m 6 136 (by decide +kernel), lw_m 6 137 (by decide +kernel), lw_m 1 11 (by decide +kernel), lw_m 6 138 (by decide +kernel), by decide +kernel, by decide⟩
theorem w_X10_ran : xMV yX10_ran cX10_ran 2 none 1 := ⟨lw_m 6 153 (by decide +kernel), lw_m 0 69 (by decide +kernel), lw_m 1 11 (by decide +kernel), lw_m 6 154 (by decide +kernel), by decide +kernel, by decide⟩
theorem w_X10_above : xMS yX10_above cX10_above 1 (some .int) 1 := ⟨lw_m 6 156 (by decide +kernel), lw_m 1 11 (by decide +kernel), lw_m 6 157 (by decide +kernel), by decide +kernel, by decide⟩
theorem w_X10_own : xMV yX10_own cX10_own 1 (some .int) 0 := ⟨lw_m 6 145 (by decide +kernel), lw_m 0 67 (by decide +kernel), lw_m 1 11 (by decide +kernel), lw_m 6 146 (by decide +kernel), by decide +kernel, by decide⟩
theorem w_X10_hears : xMV yX10_hears cX10_hears 3 (some .int) 2 := ⟨lw_m 6 149 (by decide +kernel), lw_m 0 68 (by decide +kernel), lw_m 1 11 (by decide +kernel), lw_m 6 150 (by decide +kernel), by decide +kernel, by decide⟩
theorem w_X10_voices : xMV yX10_voices cX10_voices 4 (some .int) 2 := ⟨lw_m 6 160 (by decide +kernel), lw_m 0 70 (by decide +kernel), lw_m 1 11 (by decide +kernel), lw_m 6 161 (by decide +kernel), by decide +kernel, by decide⟩
theorem w_X10_rests : xMV yX10_rests cX10_rests 3 (some .int) 2 := ⟨lw_m 6 164 (by decide +kernel), lw_m 0 71 (by decide +kernel), lw_m 1 11 (by decide +kernel), lw_m 6 165 (by decide +kernel), by decide +kernel, by decide⟩
theorem w_X10_tells : xMV yX10_tells cX10_tells 4 (some .int) 2 := ⟨lw_m 6 168 (by decide +kernel), lw_m 0 72 (by decide +kernel), lw_m 1 11 (by decide +kernel), lw_m 6 169 (by decide +kernel), by decide +kernel, by decide⟩
theorem w_X10_voice : xMV yX10_voice cX10_voice 5 (some .int) 3 := ⟨lw_m 6 140 (by decide +kernel), lw_m 6 141 (by decide +kernel), lw_m 1 11 (by decide +kernel), lw_m 6 142 (by decide +kernel), by decide +kernel, by decide⟩
theorem w_X10_trace : xMV yX10_trace cX10_trace 2 (some .int) 1 := ⟨lw_m 6 171 (by decide +kernel), lw_m 6 172 (by decide +kernel), lw_m 1 11 (by decide +kernel), lw_m 6 173 (by decide +kernel), by decide +kernel, by decide⟩
theorem w_X10_isSheet : xMS yX10_isSheet cX10_isSheet 1 (some .boolean) 1 := ⟨lw_m 5 225 (by decide +kernel), lw_m 1 11 (by decide +kernel), lw_m 5 226 (by decide +kernel), by decide +kernel, by decide⟩
theorem w_X10_sheet : xMV yX10_sheet cX10_sheet 5 (some .int) 3 := ⟨lw_m 6 175 (by decide +kernel), lw_m 6 176 (by decide +kernel), lw_m 1 11 (by decide +kernel), lw_m 6 177 (by decide +kernel), by decide +kernel, by decide⟩
theorem w_X10_put : xMV yX10_put cX10_put 4 (some .int) 3 := ⟨lw_m 6 179 (by decide +kernel), lw_m 6 180 (by decide +kernel), lw_m 1 11 (by decide +kernel), lw_m 6 181 (by decide +kernel), by decide +kernel, by decide⟩
theorem w_X10_move : xMV yX10_move cX10_move 7 (some .int) 5 := ⟨lw_m 6 183 (by decide +kernel), lw_m 6 184 (by decide +kernel), lw_m 1 11 (by decide +kernel), lw_m 6 185 (by decide +kernel), by decide +kernel, by decide⟩
theorem w_X10_image : xMV yX10_image cX10_image 1 (some .int) 0 := ⟨lw_m 6 187 (by decide +kernel), lw_m 6 188 (by decide +kernel), lw_m 1 11 (by decide +kernel), lw_m 6 189 (by decide +kernel), by decide +kernel, by decide⟩
theorem w_X10_restore : xMV yX10_restore cX10_restore 1 (some .int) 0 := ⟨lw_m 6 194 (by decide +kernel), lw_m 6 195 (by decide +kernel), lw_m 1 11 (by decide +kernel), lw_m 6 196 (by decide +kernel), by decide +kernel, by decide⟩
theorem w_X10_tell : xMV yX10_tell cX10_tell 2 (some .int) 1 := ⟨lw_m 6 198 (by decide +kernel), lw_m 6 199 (by decide +kernel), lw_m 1 11 (by decide +kernel), lw_m 6 200 (by decide +kernel), by decide +kernel, by decide⟩
theorem w_X10_check : xMV yX10_check cX10_check 4 (some .int) 1 := ⟨lw_m 6 202 (by decide +kernel), lw_m 6 203 (by decide +kernel), lw_m 1 11 (by decide +kernel), lw_m 6 204 (by decide +kernel), by decide +kernel, by decide⟩
theorem w_X10_wishes : xMV yX10_wishes cX10_wishes 3 (some .int) 0 := ⟨lw_m 6 211 (by decide +kernel), lw_m 0 73 (by decide +kernel), lw_m 1 11 (by decide +kernel), lw_m 6 212 (by decide +kernel), by decide +kernel, by decide⟩
theorem w_X10_count : xMV yX10_count cX10_count 2 (some .int) 1 := ⟨lw_m 6 206 (by decide +kernel), lw_m 6 207 (by decide +kernel), lw_m 1 11 (by decide +kernel), lw_m 6 208 (by decide +kernel), by decide +kernel, by decide⟩
theorem w_X10_told : xMV yX10_told cX10_told 2 (some .int) 1 := ⟨lw_m 6 214 (by decide +kernel), lw_m 6 215 (by decide +kernel), lw_m 1 11 (by decide +kernel), lw_m 6 216 (by decide +kernel), by decide +kernel, by decide⟩
theorem w_J11_isValidCodePoint_9a6ad : xMS yJ11_isValidCodePoint_9a6ad cJ11_isValidCodePoint_9a6ad 2 (some .boolean) 1 := ⟨lw_m 3 139 (by decide +kernel), lw_m 1 19 (by decide +kernel), lw_m 3 140 (by decide +kernel), by decide +kernel, by decide⟩
theorem w_J11_highSurrogate_5068e : xMS yJ11_highSurrogate_5068e cJ11_highSurrogate_5068e 1 (some .char) 1 := ⟨lw_m 3 142 (by decide +kernel), lw_m 1 19 (by decide +kernel), lw_m 3 143 (by decide +kernel), by decide +kernel, by decide⟩
theorem w_J11_lowSurrogate_5068e : xMS yJ11_lowSurrogate_5068e cJ11_lowSurrogate_5068e 1 (some .char) 1 := ⟨lw_m 3 146 (by decide +kernel), lw_m 1 19 (by decide +kernel), lw_m 3 147 (by decide +kernel), by decide +kernel, by decide⟩
theorem w_J9_max_7cf53 : xMS yJ9_max_7cf53 cJ9_max_7cf53 2 (some .int) 2 := ⟨lw_m 2 181 (by decide +kernel), lw_m 1 14 (by decide +kernel), lw_m 2 182 (by decide +kernel), by decide +kernel, by decide⟩
theorem w_J9_min_7cf53 : xMS yJ9_min_7cf53 cJ9_min_7cf53 2 (some .int) 2 := ⟨lw_m 3 0 (by decide +kernel), lw_m 1 14 (by decide +kernel), lw_m 3 1 (by decide +kernel), by decide +kernel, by decide⟩
theorem w_J0_length_8abf5 : xMV yJ0_length_8abf5 cJ0_length_8abf5 1 (some .int) 0 := ⟨lw_m 3 82 (by decide +kernel), lw_m 3 83 (by decide +kernel), lw_m 1 15 (by decide +kernel), lw_m 3 84 (by decide +kernel), by decide +kernel, by decide⟩
theorem w_J0_indexOf_0f7a4 : xMV yJ0_indexOf_0f7a4 cJ0_indexOf_0f7a4 2 (some .int) 1 := ⟨lw_m 3 68 (by decide +kernel), lw_m 3 69 (by decide +kernel), lw_m 1 15 (by decide +kernel), lw_m 3 70 (by decide +kernel), by decide +kernel, by decide⟩
theorem w_J0_indexOf_7cf53 : xMV yJ0_indexOf_7cf53 cJ0_indexOf_7cf53 3 (some .int) 2 := ⟨lw_m 3 72 (by decide +kernel), lw_m 3 73 (by decide +kernel), lw_m 1 15 (by decide +kernel), lw_m 3 74 (by decide +kernel), by decide +kernel, by decide⟩
theorem w_J0_coder_7d493 : xMV yJ0_coder_7d493 cJ0_coder_7d493 1 (some .byte) 0 := ⟨lw_m 3 86 (by decide +kernel), lw_m 3 87 (by decide +kernel), lw_m 1 15 (by decide +kernel), lw_m 3 88 (by decide +kernel), by decide +kernel, by decide⟩
theorem w_J0_isLatin1_aae02 : xMV yJ0_isLatin1_aae02 cJ0_isLatin1_aae02 1 (some .boolean) 0 := ⟨lw_m 3 76 (by decide +kernel), lw_m 3 77 (by decide +kernel), lw_m 1 15 (by decide +kernel), lw_m 3 78 (by decide +kernel), by decide +kernel, by decide⟩
theorem w_J0_checkBoundsBeginEnd_23922 : xMS yJ0_checkBoundsBeginEnd_23922 cJ0_checkBoundsBeginEnd_23922 3 none 3 := ⟨lw_m 3 116 (by decide +kernel), lw_m 1 15 (by decide +kernel), lw_m 3 117 (by decide +kernel), by decide +kernel, by decide⟩
theorem w_J1_canEncode_9a6ad : xMS yJ1_canEncode_9a6ad cJ1_canEncode_9a6ad 1 (some .boolean) 1 := ⟨lw_m 3 93 (by decide +kernel), lw_m 1 16 (by decide +kernel), lw_m 3 94 (by decide +kernel), by decide +kernel, by decide⟩
theorem w_J1_indexOf_4cfef : xMS yJ1_indexOf_4cfef cJ1_indexOf_4cfef 4 (some .int) 4 := ⟨lw_m 3 90 (by decide +kernel), lw_m 1 16 (by decide +kernel), lw_m 3 91 (by decide +kernel), by decide +kernel, by decide⟩
theorem w_J1_indexOfChar_4cfef : xMS yJ1_indexOfChar_4cfef cJ1_indexOfChar_4cfef 6 (some .int) 4 := ⟨lw_m 3 98 (by decide +kernel), lw_m 1 16 (by decide +kernel), lw_m 3 99 (by decide +kernel), by decide +kernel, by decide⟩
theorem w_J2_getChar_3b067 : xMS yJ2_getChar_3b067 cJ2_getChar_3b067 2 (some .char) 2 := ⟨lw_m 3 127 (by decide +kernel), lw_m 1 17 (by decide +kernel), lw_m 3 128 (by decide +kernel), by decide +kernel, by decide⟩
theorem w_J2_length_9d52b : xMS yJ2_length_9d52b cJ2_length_9d52b 1 (some .int) 1 := ⟨lw_m 3 113 (by decide +kernel), lw_m 1 17 (by decide +kernel), lw_m 3 114 (by decide +kernel), by decide +kernel, by decide⟩
theorem w_J2_indexOf_4cfef : xMS yJ2_indexOf_4cfef cJ2_indexOf_4cfef 4 (some .int) 4 := ⟨lw_m 3 101 (by decide +kernel), lw_m 1 17 (by decide +kernel), lw_m 3 102 (by decide +kernel), by decide +kernel, by decide⟩
theorem w_J2_indexOfChar_4cfef : xMS yJ2_indexOfChar_4cfef cJ2_indexOfChar_4cfef 4 (some .int) 4 := ⟨lw_m 3 107 (by decide +kernel), lw_m 1 17 (by decide +kernel), lw_m 3 108 (by decide +kernel), by decide +kernel, by decide⟩
theorem w_J2_indexOfCharUnsafe_4cfef : xMS yJ2_indexOfCharUnsafe_4cfef cJ2_indexOfCharUnsafe_4cfef 5 (some .int) 4 := ⟨lw_m 3 124 (by decide +kernel), lw_m 1 17 (by decide +kernel), lw_m 3 125 (by decide +kernel), by decide +kernel, by decide⟩
theorem w_J2_indexOfSupplementary_4cfef : xMS yJ2_indexOfSupplementary_4cfef cJ2_indexOfSupplementary_4cfef 7 (some .int) 4 := ⟨lw_m 3 136 (by decide +kernel), lw_m 1 17 (by decide +kernel), lw_m 3 137 (by decide +kernel), by decide +kernel, by decide⟩
theorem w_J2_checkBoundsBeginEnd_d044e : xMS yJ2_checkBoundsBeginEnd_d044e cJ2_checkBoundsBeginEnd_d044e 3 none 3 := ⟨lw_m 3 110 (by decide +kernel), lw_m 1 17 (by decide +kernel), lw_m 3 111 (by decide +kernel), by decide +kernel, by decide⟩
theorem w_J7_fill_53178 : xMS yJ7_fill_53178 cJ7_fill_53178 4 none 2 := ⟨lw_m 2 131 (by decide +kernel), lw_m 1 12 (by decide +kernel), lw_m 2 132 (by decide +kernel), by decide +kernel, by decide⟩
theorem w_J3_checkFromToIndex_8c36e : xMS yJ3_checkFromToIndex_8c36e cJ3_checkFromToIndex_8c36e 4 (some .int) 4 := ⟨lw_m 3 121 (by decide +kernel), lw_m 1 18 (by decide +kernel), lw_m 3 122 (by decide +kernel), by decide +kernel, by decide⟩
-- link X9 3 ('java/lang/Object', '<init>', '()V')
theorem k_X9_82 {R : Room} {d : Nat} {S : XS} (hM : xCT d yX9_within cX9_within 3 (some .boolean) S) (hR : d + 1 ≤ R.frames ∧ 40 * d + 40 ≤ R.locals := by exact ⟨Nat.le_refl _, Nat.le_refl _⟩) : xCall RX9 R 82 false 3 S := xcallS w_X9_within (lw_m 2 114 (by decide +kernel)) hM hR
theorem k_X9_86 {R : Room} {d : Nat} {S : XS} (hM : xCT d yX9_fail cX9_fail 2 (some .int) S) (hR : d + 1 ≤ R.frames ∧ 40 * d + 40 ≤ R.locals := by exact ⟨Nat.le_refl _, Nat.le_refl _⟩) : xCall RX9 R 86 true 2 (xrcv 9 S) := xcallV 9 w_X9_fail rfl (lw_m 2 117 (by decide +kernel)) hM hR
theorem k_X9_102 {R : Room} {d : Nat} {S : XS} (hM : xCT d yX7_forgetAll cX7_forgetAll 2 none S) (hR : d + 1 ≤ R.frames ∧ 40 * d + 40 ≤ R.locals := by exact ⟨Nat.le_refl _, Nat.le_refl _⟩) : xCall RX9 R 102 true 1 (xrcv 7 S) := xcallV 7 w_X7_forgetAll rfl (lw_m 2 122 (by decide +kernel)) hM hR
theorem k_X9_105 {R : Room} {d : Nat} {S : XS} (hM : xCT d yX9_isRule cX9_isRule 2 (some .boolean) S) (hR : d + 1 ≤ R.frames ∧ 40 * d + 40 ≤ R.locals := by exact ⟨Nat.le_refl _, Nat.le_refl _⟩) : xCall RX9 R 105 false 2 S := xcallS w_X9_isRule (lw_m 2 137 (by decide +kernel)) hM hR
theorem k_X9_109 {R : Room} {d : Nat} {S : XS} (hM : xCT d yX1_join cX1_join 4 (some .int) S) (hR : d + 1 ≤ R.frames ∧ 40 * d + 40 ≤ R.locals := by exact ⟨Nat.le_refl _, Nat.le_refl _⟩) : xCall RX9 R 109 true 3 (xrcv 1 S) := xcallV 1 w_X1_join rfl (lw_m 2 140 (by decide +kernel)) hM hR
theorem k_X9_113 {R : Room} {d : Nat} {S : XS} (hM : xCT d yX7_forget cX7_forget 2 none S) (hR : d + 1 ≤ R.frames ∧ 40 * d + 40 ≤ R.locals := by exact ⟨Nat.le_refl _, Nat.le_refl _⟩) : xCall RX9 R 113 true 2 (xrcv 7 S) := xcallV 7 w_X7_forget rfl (lw_m 2 148 (by decide +kernel)) hM hR
theorem k_X9_117 {R : Room} {d : Nat} {S : XS} (hM : xCT d yX1_has cX1_has 2 (some .boolean) S) (hR : d + 1 ≤ R.frames ∧ 40 * d + 40 ≤ R.locals := by exact ⟨Nat.le_refl _, Nat.le_refl _⟩) : xCall RX9 R 117 true 2 (xrcv 1 S) := xcallV 1 w_X1_has rfl (lw_m 2 153 (by decide +kernel)) hM hR
theorem k_X9_133 {R : Room} {d : Nat} {S : XS} (hM : xCT d yX9_noteAhead cX9_noteAhead 3 (some .int) S) (hR : d + 1 ≤ R.frames ∧ 40 * d + 40 ≤ R.locals := by exact ⟨Nat.le_refl _, Nat.le_refl _⟩) : xCall RX9 R 133 true 3 (xrcv 9 S) := xcallV 9 w_X9_noteAhead rfl (lw_m 2 157 (by decide +kernel)) hM hR
theorem k_X9_139 {R : Room} {d : Nat} {S : XS} (hM : xCT d yX9_isUnder cX9_isUnder 4 (some .boolean) S) (hR : d + 1 ≤ R.frames ∧ 40 * d + 40 ≤ R.locals := by exact ⟨Nat.le_refl _, Nat.le_refl _⟩) : xCall RX9 R 139 false 2 S := xcallS w_X9_isUnder (lw_m 2 206 (by decide +kernel)) hM hR
theorem k_X9_142 {R : Room} {d : Nat} {S : XS} (hM : xCT d yX1_hearAsInRing cX1_hearAsInRing 2 none S) (hR : d + 1 ≤ R.frames ∧ 40 * d + 40 ≤ R.locals := by exact ⟨Nat.le_refl _, Nat.le_refl _⟩) : xCall RX9 R 142 true 1 (xrcv 1 S) := xcallV 1 w_X1_hearAsInRing rfl (lw_m 2 219 (by decide +kernel)) hM hR
theorem k_X9_145 {R : Room} {d : Nat} {S : XS} (hM : xCT d yX9_isSheet cX9_isSheet 1 (some .boolean) S) (hR : d + 1 ≤ R.frames ∧ 40 * d + 40 ≤ R.locals := by exact ⟨Nat.le_refl _, Nat.le_refl _⟩) : xCall RX9 R 145 false 1 S := xcallS w_X9_isSheet (lw_m 2 228 (by decide +kernel)) hM hR
theorem k_X9_148 {R : Room} {d : Nat} {S : XS} (hM : xCT d yX6_isMissing cX6_isMissing 2 (some .boolean) S) (hR : d + 1 ≤ R.frames ∧ 40 * d + 40 ≤ R.locals := by exact ⟨Nat.le_refl _, Nat.le_refl _⟩) : xCall RX9 R 148 true 2 (xrcv 6 S) := xcallV 6 w_X6_isMissing rfl (lw_m 2 231 (by decide +kernel)) hM hR
theorem k_X9_151 {R : Room} {d : Nat} {S : XS} (hM : xCT d yX6_size cX6_size 2 (some .int) S) (hR : d + 1 ≤ R.frames ∧ 40 * d + 40 ≤ R.locals := by exact ⟨Nat.le_refl _, Nat.le_refl _⟩) : xCall RX9 R 151 true 2 (xrcv 6 S) := xcallV 6 w_X6_size rfl (lw_m 2 235 (by decide +kernel)) hM hR
theorem k_X9_154 {R : Room} {d : Nat} {S : XS} (hM : xCT d yJ9_min_7cf53 cJ9_min_7cf53 2 (some .int) S) (hR : d + 1 ≤ R.frames ∧ 40 * d + 40 ≤ R.locals := by exact ⟨Nat.le_refl _, Nat.le_refl _⟩) : xCall RX9 R 154 false 2 S := xcallS w_J9_min_7cf53 (lw_m 2 239 (by decide +kernel)) hM hR
theorem k_X9_159 {R : Room} {d : Nat} {S : XS} (hM : xCT d yX6_number cX6_number 3 (some .int) S) (hR : d + 1 ≤ R.frames ∧ 40 * d + 40 ≤ R.locals := by exact ⟨Nat.le_refl _, Nat.le_refl _⟩) : xCall RX9 R 159 true 3 (xrcv 6 S) := xcallV 6 w_X6_number rfl (lw_m 3 2 (by decide +kernel)) hM hR
theorem k_X9_169 {R : Room} {d : Nat} {S : XS} (hM : xCT d yX3_faultOf cX3_faultOf 4 (some .int) S) (hR : d + 1 ≤ R.frames ∧ 40 * d + 40 ≤ R.locals := by exact ⟨Nat.le_refl _, Nat.le_refl _⟩) : xCall RX9 R 169 true 4 (xrcv 3 S) := xcallV 3 w_X3_faultOf rfl (lw_m 3 14 (by decide +kernel)) hM hR
theorem k_X9_180 {R : Room} {d : Nat} {S : XS} (hM : xCT d yX2_copyFrom cX2_copyFrom 2 none S) (hR : d + 1 ≤ R.frames ∧ 40 * d + 40 ≤ R.locals := by exact ⟨Nat.le_refl _, Nat.le_refl _⟩) : xCall RX9 R 180 true 2 (xrcv 2 S) := xcallV 2 w_X2_copyFrom rfl (lw_m 3 149 (by decide +kernel)) hM hR
theorem k_X9_189 {R : Room} {d : Nat} {S : XS} (hM : xCT d yX2_isMissing cX2_isMissing 1 (some .boolean) S) (hR : d + 1 ≤ R.frames ∧ 40 * d + 40 ≤ R.locals := by exact ⟨Nat.le_refl _, Nat.le_refl _⟩) : xCall RX9 R 189 true 1 (xrcv 2 S) := xcallV 2 w_X2_isMissing rfl (lw_m 3 158 (by decide +kernel)) hM hR
theorem k_X9_192 {R : Room} {d : Nat} {S : XS} (hM : xCT d yX2_valueOf cX2_valueOf 8 (some .int) S) (hR : d + 1 ≤ R.frames ∧ 40 * d + 40 ≤ R.locals := by exact ⟨Nat.le_refl _, Nat.le_refl _⟩) : xCall RX9 R 192 true 5 (xrcv 2 S) := xcallV 2 w_X2_valueOf rfl (lw_m 3 159 (by decide +kernel)) hM hR
theorem k_X9_196 {R : Room} {d : Nat} {S : XS} (hM : xCT d yX1_worthOf cX1_worthOf 4 (some .int) S) (hR : d + 1 ≤ R.frames ∧ 40 * d + 40 ≤ R.locals := by exact ⟨Nat.le_refl _, Nat.le_refl _⟩) : xCall RX9 R 196 true 3 (xrcv 1 S) := xcallV 1 w_X1_worthOf rfl (lw_m 3 160 (by decide +kernel)) hM hR
theorem k_X9_203 {R : Room} {d : Nat} {S : XS} (hM : xCT d yX9_goBy cX9_goBy 2 none S) (hR : d + 1 ≤ R.frames ∧ 40 * d + 40 ≤ R.locals := by exact ⟨Nat.le_refl _, Nat.le_refl _⟩) : xCall RX9 R 203 true 2 (xrcv 9 S) := xcallV 9 w_X9_goBy rfl (lw_m 3 170 (by decide +kernel)) hM hR
theorem k_X9_206 {R : Room} {d : Nat} {S : XS} (hM : xCT d yX1_slip cX1_slip 3 none S) (hR : d + 1 ≤ R.frames ∧ 40 * d + 40 ≤ R.locals := by exact ⟨Nat.le_refl _, Nat.le_refl _⟩) : xCall RX9 R 206 true 2 (xrcv 1 S) := xcallV 1 w_X1_slip rfl (lw_m 3 179 (by decide +kernel)) hM hR
theorem k_X9_209 {R : Room} {d : Nat} {S : XS} (hM : xCT d yX5_startFrom cX5_startFrom 2 none S) (hR : d + 1 ≤ R.frames ∧ 40 * d + 40 ≤ R.locals := by exact ⟨Nat.le_refl _, Nat.le_refl _⟩) : xCall RX9 R 209 true 2 (xrcv 5 S) := xcallV 5 w_X5_startFrom rfl (lw_m 2 161 (by decide +kernel)) hM hR
theorem k_X9_213 {R : Room} {d : Nat} {S : XS} (hM : xCT d yX5_goOn cX5_goOn 6 none S) (hR : d + 1 ≤ R.frames ∧ 40 * d + 40 ≤ R.locals := by exact ⟨Nat.le_refl _, Nat.le_refl _⟩) : xCall RX9 R 213 true 4 (xrcv 5 S) := xcallV 5 w_X5_goOn rfl (lw_m 2 168 (by decide +kernel)) hM hR
theorem k_X9_220 {R : Room} {d : Nat} {S : XS} (hM : xCT d yX1_stateOf cX1_stateOf 4 (some .int) S) (hR : d + 1 ≤ R.frames ∧ 40 * d + 40 ≤ R.locals := by exact ⟨Nat.le_refl _, Nat.le_refl _⟩) : xCall RX9 R 220 true 2 (xrcv 1 S) := xcallV 1 w_X1_stateOf rfl (lw_m 3 201 (by decide +kernel)) hM hR
theorem k_X9_224 {R : Room} {d : Nat} {S : XS} (hM : xCT d yX4_comesRound cX4_comesRound 5 (some .boolean) S) (hR : d + 1 ≤ R.frames ∧ 40 * d + 40 ≤ R.locals := by exact ⟨Nat.le_refl _, Nat.le_refl _⟩) : xCall RX9 R 224 true 3 (xrcv 4 S) := xcallV 4 w_X4_comesRound rfl (lw_m 3 209 (by decide +kernel)) hM hR
theorem k_X9_234 {R : Room} {d : Nat} {S : XS} (hM : xCT d yX0_fill cX0_fill 4 (some .boolean) S) (hR : d + 1 ≤ R.frames ∧ 40 * d + 40 ≤ R.locals := by exact ⟨Nat.le_refl _, Nat.le_refl _⟩) : xCall RX9 R 234 true 3 (xrcv 0 S) := xcallV 0 w_X0_fill rfl (lw_m 3 225 (by decide +kernel)) hM hR
theorem k_X9_237 {R : Room} {d : Nat} {S : XS} (hM : xCT d yX0_findWished cX0_findWished 4 none S) (hR : d + 1 ≤ R.frames ∧ 40 * d + 40 ≤ R.locals := by exact ⟨Nat.le_refl _, Nat.le_refl _⟩) : xCall RX9 R 237 true 3 (xrcv 0 S) := xcallV 0 w_X0_findWished rfl (lw_m 3 236 (by decide +kernel)) hM hR
theorem k_X9_247 {R : Room} {d : Nat} {S : XS} (hM : xCT d yX0_worthiest cX0_worthiest 7 (some .int) S) (hR : d + 1 ≤ R.frames ∧ 40 * d + 40 ≤ R.locals := by exact ⟨Nat.le_refl _, Nat.le_refl _⟩) : xCall RX9 R 247 true 3 (xrcv 0 S) := xcallV 0 w_X0_worthiest rfl (lw_m 4 19 (by decide +kernel)) hM hR
theorem k_X9_251 {R : Room} {d : Nat} {S : XS} (hM : xCT d yX0_findAhead cX0_findAhead 3 none S) (hR : d + 1 ≤ R.frames ∧ 40 * d + 40 ≤ R.locals := by exact ⟨Nat.le_refl _, Nat.le_refl _⟩) : xCall RX9 R 251 true 2 (xrcv 0 S) := xcallV 0 w_X0_findAhead rfl (lw_m 4 36 (by decide +kernel)) hM hR
theorem k_X9_254 {R : Room} {d : Nat} {S : XS} (hM : xCT d yX0_behindNone cX0_behindNone 3 (some .int) S) (hR : d + 1 ≤ R.frames ∧ 40 * d + 40 ≤ R.locals := by exact ⟨Nat.le_refl _, Nat.le_refl _⟩) : xCall RX9 R 254 true 1 (xrcv 0 S) := xcallV 0 w_X0_behindNone rfl (lw_m 4 44 (by decide +kernel)) hM hR
theorem k_X9_258 {R : Room} {d : Nat} {S : XS} (hM : xCT d yX0_findRounds cX0_findRounds 4 none S) (hR : d + 1 ≤ R.frames ∧ 40 * d + 40 ≤ R.locals := by exact ⟨Nat.le_refl _, Nat.le_refl _⟩) : xCall RX9 R 258 true 1 (xrcv 0 S) := xcallV 0 w_X0_findRounds rfl (lw_m 4 52 (by decide +kernel)) hM hR
theorem k_X9_264 {R : Room} {d : Nat} {S : XS} (hM : xCT d yX9_isOdd cX9_isOdd 11 (some .boolean) S) (hR : d + 1 ≤ R.frames ∧ 40 * d + 40 ≤ R.locals := by exact ⟨Nat.le_refl _, Nat.le_refl _⟩) : xCall RX9 R 264 true 5 (xrcv 9 S) := xcallV 9 w_X9_isOdd rfl (lw_m 4 65 (by decide +kernel)) hM hR
theorem k_X9_268 {R : Room} {d : Nat} {S : XS} (hM : xCT d yX9_firstMaking cX9_firstMaking 5 (some .int) S) (hR : d + 1 ≤ R.frames ∧ 40 * d + 40 ≤ R.locals := by exact ⟨Nat.le_refl _, Nat.le_refl _⟩) : xCall RX9 R 268 true 3 (xrcv 9 S) := xcallV 9 w_X9_firstMaking rfl (lw_m 4 75 (by decide +kernel)) hM hR
theorem k_X9_271 {R : Room} {d : Nat} {S : XS} (hM : xCT d yX9_isCough cX9_isCough 3 (some .boolean) S) (hR : d + 1 ≤ R.frames ∧ 40 * d + 40 ≤ R.locals := by exact ⟨Nat.le_refl _, Nat.le_refl _⟩) : xCall RX9 R 271 true 3 (xrcv 9 S) := xcallV 9 w_X9_isCough rfl (lw_m 4 83 (by decide +kernel)) hM hR
theorem k_X9_274 {R : Room} {d : Nat} {S : XS} (hM : xCT d yX9_startCough cX9_startCough 3 none S) (hR : d + 1 ≤ R.frames ∧ 40 * d + 40 ≤ R.locals := by exact ⟨Nat.le_refl _, Nat.le_refl _⟩) : xCall RX9 R 274 true 3 (xrcv 9 S) := xcallV 9 w_X9_startCough rfl (lw_m 4 87 (by decide +kernel)) hM hR
theorem k_X9_278 {R : Room} {d : Nat} {S : XS} (hM : xCT d yX5_unlike cX5_unlike 5 (some .int) S) (hR : d + 1 ≤ R.frames ∧ 40 * d + 40 ≤ R.locals := by exact ⟨Nat.le_refl _, Nat.le_refl _⟩) : xCall RX9 R 278 true 3 (xrcv 5 S) := xcallV 5 w_X5_unlike rfl (lw_m 4 91 (by decide +kernel)) hM hR
theorem k_X9_282 {R : Room} {d : Nat} {S : XS} (hM : xCT d yX9_writeTuneNotes cX9_writeTuneNotes 3 none S) (hR : d + 1 ≤ R.frames ∧ 40 * d + 40 ≤ R.locals := by exact ⟨Nat.le_refl _, Nat.le_refl _⟩) : xCall RX9 R 282 true 2 (xrcv 9 S) := xcallV 9 w_X9_writeTuneNotes rfl (lw_m 4 103 (by decide +kernel)) hM hR
theorem k_X9_285 {R : Room} {d : Nat} {S : XS} (hM : xCT d yX9_goesBy cX9_goesBy 5 (some .boolean) S) (hR : d + 1 ≤ R.frames ∧ 40 * d + 40 ≤ R.locals := by exact ⟨Nat.le_refl _, Nat.le_refl _⟩) : xCall RX9 R 285 true 4 (xrcv 9 S) := xcallV 9 w_X9_goesBy rfl (lw_m 4 107 (by decide +kernel)) hM hR
theorem k_X9_288 {R : Room} {d : Nat} {S : XS} (hM : xCT d yX4_findLongest cX4_findLongest 9 none S) (hR : d + 1 ≤ R.frames ∧ 40 * d + 40 ≤ R.locals := by exact ⟨Nat.le_refl _, Nat.le_refl _⟩) : xCall RX9 R 288 true 3 (xrcv 4 S) := xcallV 4 w_X4_findLongest rfl (lw_m 4 115 (by decide +kernel)) hM hR
theorem k_X9_299 {R : Room} {d : Nat} {S : XS} (hM : xCT d yX8_sound cX8_sound 5 (some .int) S) (hR : d + 1 ≤ R.frames ∧ 40 * d + 40 ≤ R.locals := by exact ⟨Nat.le_refl _, Nat.le_refl _⟩) : xCall RX9 R 299 true 5 (xrcv 8 S) := xcallV 8 w_X8_sound rfl (lw_m 4 136 (by decide +kernel)) hM hR
theorem k_X9_309 {R : Room} {d : Nat} {S : XS} (hM : xCT d yX6_lay cX6_lay 4 none S) (hR : d + 1 ≤ R.frames ∧ 40 * d + 40 ≤ R.locals := by exact ⟨Nat.le_refl _, Nat.le_refl _⟩) : xCall RX9 R 309 true 4 (xrcv 6 S) := xcallV 6 w_X6_lay rfl (lw_m 4 163 (by decide +kernel)) hM hR
theorem k_X9_313 {R : Room} {d : Nat} {S : XS} (hM : xCT d yX6_write cX6_write 4 none S) (hR : d + 1 ≤ R.frames ∧ 40 * d + 40 ≤ R.locals := by exact ⟨Nat.le_refl _, Nat.le_refl _⟩) : xCall RX9 R 313 true 4 (xrcv 6 S) := xcallV 6 w_X6_write rfl (lw_m 4 172 (by decide +kernel)) hM hR
theorem k_X9_316 {R : Room} {d : Nat} {S : XS} (hM : xCT d yX6_areAlike cX6_areAlike 3 (some .boolean) S) (hR : d + 1 ≤ R.frames ∧ 40 * d + 40 ≤ R.locals := by exact ⟨Nat.le_refl _, Nat.le_refl _⟩) : xCall RX9 R 316 true 3 (xrcv 6 S) := xcallV 6 w_X6_areAlike rfl (lw_m 4 180 (by decide +kernel)) hM hR
theorem k_X9_319 {R : Room} {d : Nat} {S : XS} (hM : xCT d yX6_stand cX6_stand 4 (some .boolean) S) (hR : d + 1 ≤ R.frames ∧ 40 * d + 40 ≤ R.locals := by exact ⟨Nat.le_refl _, Nat.le_refl _⟩) : xCall RX9 R 319 true 4 (xrcv 6 S) := xcallV 6 w_X6_stand rfl (lw_m 4 184 (by decide +kernel)) hM hR
theorem k_X9_322 {R : Room} {d : Nat} {S : XS} (hM : xCT d yX6_carry cX6_carry 6 none S) (hR : d + 1 ≤ R.frames ∧ 40 * d + 40 ≤ R.locals := by exact ⟨Nat.le_refl _, Nat.le_refl _⟩) : xCall RX9 R 322 true 6 (xrcv 6 S) := xcallV 6 w_X6_carry rfl (lw_m 4 188 (by decide +kernel)) hM hR
theorem k_X9_326 {R : Room} {d : Nat} {S : XS} (hM : xCT d yX1_copyFrom cX1_copyFrom 2 none S) (hR : d + 1 ≤ R.frames ∧ 40 * d + 40 ≤ R.locals := by exact ⟨Nat.le_refl _, Nat.le_refl _⟩) : xCall RX9 R 326 true 2 (xrcv 1 S) := xcallV 1 w_X1_copyFrom rfl (lw_m 4 197 (by decide +kernel)) hM hR
theorem k_X9_335 {R : Room} {d : Nat} {S : XS} (hM : xCT d yX1_wishing cX1_wishing 3 (some .int) S) (hR : d + 1 ≤ R.frames ∧ 40 * d + 40 ≤ R.locals := by exact ⟨Nat.le_refl _, Nat.le_refl _⟩) : xCall RX9 R 335 true 1 (xrcv 1 S) := xcallV 1 w_X1_wishing rfl (lw_m 4 219 (by decide +kernel)) hM hR
-- link X9 342 ('java/lang/System', 'arraycopy', '(Ljava/lang/Object;ILjava/lang/Object;II)V')
theorem k_X9_348 {R : Room} {d : Nat} {S : XS} (hM : xCT d yX1_countedRound cX1_countedRound 4 (some .int) S) (hR : d + 1 ≤ R.frames ∧ 40 * d + 40 ≤ R.locals := by exact ⟨Nat.le_refl _, Nat.le_refl _⟩) : xCall RX9 R 348 true 2 (xrcv 1 S) := xcallV 1 w_X1_countedRound rfl (lw_m 4 70 (by decide +kernel)) hM hR
theorem k_X9_352 {R : Room} {d : Nat} {S : XS} (hM : xCT d yX1_sumOf cX1_sumOf 7 (some .long) S) (hR : d + 1 ≤ R.frames ∧ 40 * d + 40 ≤ R.locals := by exact ⟨Nat.le_refl _, Nat.le_refl _⟩) : xCall RX9 R 352 true 6 (xrcv 1 S) := xcallV 1 w_X1_sumOf rfl (lw_m 4 69 (by decide +kernel)) hM hR
-- link X0 3 ('java/lang/Object', '<init>', '()V')
theorem k_X0_48 {R : Room} {d : Nat} {S : XS} (hM : xCT d yJ7_fill_53178 cJ7_fill_53178 4 none S) (hR : d + 1 ≤ R.frames ∧ 40 * d + 40 ≤ R.locals := by exact ⟨Nat.le_refl _, Nat.le_refl _⟩) : xCall RX0 R 48 false 2 S := xcallS w_J7_fill_53178 (lw_m 3 229 (by decide +kernel)) hM hR
theorem k_X0_54 {R : Room} {d : Nat} {S : XS} (hM : xCT d yX7_step cX7_step 10 none S) (hR : d + 1 ≤ R.frames ∧ 40 * d + 40 ≤ R.locals := by exact ⟨Nat.le_refl _, Nat.le_refl _⟩) : xCall RX0 R 54 true 4 (xrcv 7 S) := xcallV 7 w_X7_step rfl (lw_m 3 230 (by decide +kernel)) hM hR
theorem k_X0_60 {R : Room} {d : Nat} {S : XS} (hM : xCT d yX1_stateOf cX1_stateOf 4 (some .int) S) (hR : d + 1 ≤ R.frames ∧ 40 * d + 40 ≤ R.locals := by exact ⟨Nat.le_refl _, Nat.le_refl _⟩) : xCall RX0 R 60 true 2 (xrcv 1 S) := xcallV 1 w_X1_stateOf rfl (lw_m 3 231 (by decide +kernel)) hM hR
theorem k_X0_64 {R : Room} {d : Nat} {S : XS} (hM : xCT d yX0_toNextState cX0_toNextState 3 none S) (hR : d + 1 ≤ R.frames ∧ 40 * d + 40 ≤ R.locals := by exact ⟨Nat.le_refl _, Nat.le_refl _⟩) : xCall RX0 R 64 true 2 (xrcv 0 S) := xcallV 0 w_X0_toNextState rfl (lw_m 3 232 (by decide +kernel)) hM hR
theorem k_X0_68 {R : Room} {d : Nat} {S : XS} (hM : xCT d yX0_findNone cX0_findNone 1 none S) (hR : d + 1 ≤ R.frames ∧ 40 * d + 40 ≤ R.locals := by exact ⟨Nat.le_refl _, Nat.le_refl _⟩) : xCall RX0 R 68 true 1 (xrcv 0 S) := xcallV 0 w_X0_findNone rfl (lw_m 4 0 (by decide +kernel)) hM hR
theorem k_X0_71 {R : Room} {d : Nat} {S : XS} (hM : xCT d yX0_after cX0_after 5 (some .int) S) (hR : d + 1 ≤ R.frames ∧ 40 * d + 40 ≤ R.locals := by exact ⟨Nat.le_refl _, Nat.le_refl _⟩) : xCall RX0 R 71 true 3 (xrcv 0 S) := xcallV 0 w_X0_after rfl (lw_m 4 4 (by decide +kernel)) hM hR
theorem k_X0_75 {R : Room} {d : Nat} {S : XS} (hM : xCT d yX0_isWished cX0_isWished 4 (some .boolean) S) (hR : d + 1 ≤ R.frames ∧ 40 * d + 40 ≤ R.locals := by exact ⟨Nat.le_refl _, Nat.le_refl _⟩) : xCall RX0 R 75 false 2 S := xcallS w_X0_isWished (lw_m 4 8 (by decide +kernel)) hM hR
theorem k_X0_79 {R : Room} {d : Nat} {S : XS} (hM : xCT d yX0_find cX0_find 2 none S) (hR : d + 1 ≤ R.frames ∧ 40 * d + 40 ≤ R.locals := by exact ⟨Nat.le_refl _, Nat.le_refl _⟩) : xCall RX0 R 79 true 2 (xrcv 0 S) := xcallV 0 w_X0_find rfl (lw_m 4 11 (by decide +kernel)) hM hR
theorem k_X0_86 {R : Room} {d : Nat} {S : XS} (hM : xCT d yX0_weighNotes cX0_weighNotes 4 none S) (hR : d + 1 ≤ R.frames ∧ 40 * d + 40 ≤ R.locals := by exact ⟨Nat.le_refl _, Nat.le_refl _⟩) : xCall RX0 R 86 true 2 (xrcv 0 S) := xcallV 0 w_X0_weighNotes rfl (lw_m 4 23 (by decide +kernel)) hM hR
theorem k_X0_89 {R : Room} {d : Nat} {S : XS} (hM : xCT d yX0_worthOfState cX0_worthOfState 6 (some .int) S) (hR : d + 1 ≤ R.frames ∧ 40 * d + 40 ≤ R.locals := by exact ⟨Nat.le_refl _, Nat.le_refl _⟩) : xCall RX0 R 89 true 3 (xrcv 0 S) := xcallV 0 w_X0_worthOfState rfl (lw_m 4 28 (by decide +kernel)) hM hR
theorem k_X0_93 {R : Room} {d : Nat} {S : XS} (hM : xCT d yX1_worthOf cX1_worthOf 4 (some .int) S) (hR : d + 1 ≤ R.frames ∧ 40 * d + 40 ≤ R.locals := by exact ⟨Nat.le_refl _, Nat.le_refl _⟩) : xCall RX0 R 93 true 3 (xrcv 1 S) := xcallV 1 w_X1_worthOf rfl (lw_m 4 27 (by decide +kernel)) hM hR
theorem k_X0_96 {R : Room} {d : Nat} {S : XS} (hM : xCT d yX0_roundFrom cX0_roundFrom 4 (some .int) S) (hR : d + 1 ≤ R.frames ∧ 40 * d + 40 ≤ R.locals := by exact ⟨Nat.le_refl _, Nat.le_refl _⟩) : xCall RX0 R 96 true 2 (xrcv 0 S) := xcallV 0 w_X0_roundFrom rfl (lw_m 4 56 (by decide +kernel)) hM hR
theorem k_X0_100 {R : Room} {d : Nat} {S : XS} (hM : xCT d yJ9_max_7cf53 cJ9_max_7cf53 2 (some .int) S) (hR : d + 1 ≤ R.frames ∧ 40 * d + 40 ≤ R.locals := by exact ⟨Nat.le_refl _, Nat.le_refl _⟩) : xCall RX0 R 100 false 2 S := xcallS w_J9_max_7cf53 (lw_m 4 60 (by decide +kernel)) hM hR
-- link X1 3 ('java/lang/Object', '<init>', '()V')
theorem k_X1_69 {R : Room} {d : Nat} {S : XS} (hM : xCT d yX1_hearAsInRing cX1_hearAsInRing 2 none S) (hR : d + 1 ≤ R.frames ∧ 40 * d + 40 ≤ R.locals := by exact ⟨Nat.le_refl _, Nat.le_refl _⟩) : xCall RX1 R 69 true 1 (xrcv 1 S) := xcallV 1 w_X1_hearAsInRing rfl (lw_m 2 144 (by decide +kernel)) hM hR
theorem k_X1_72 {R : Room} {d : Nat} {S : XS} (hM : xCT d yJ9_max_7cf53 cJ9_max_7cf53 2 (some .int) S) (hR : d + 1 ≤ R.frames ∧ 40 * d + 40 ≤ R.locals := by exact ⟨Nat.le_refl _, Nat.le_refl _⟩) : xCall RX1 R 72 false 2 S := xcallS w_J9_max_7cf53 (lw_m 2 180 (by decide +kernel)) hM hR
theorem k_X1_78 {R : Room} {d : Nat} {S : XS} (hM : xCT d yX2_isMissing cX2_isMissing 1 (some .boolean) S) (hR : d + 1 ≤ R.frames ∧ 40 * d + 40 ≤ R.locals := by exact ⟨Nat.le_refl _, Nat.le_refl _⟩) : xCall RX1 R 78 true 1 (xrcv 2 S) := xcallV 2 w_X2_isMissing rfl (lw_m 2 183 (by decide +kernel)) hM hR
theorem k_X1_82 {R : Room} {d : Nat} {S : XS} (hM : xCT d yX2_valueOf cX2_valueOf 8 (some .int) S) (hR : d + 1 ≤ R.frames ∧ 40 * d + 40 ≤ R.locals := by exact ⟨Nat.le_refl _, Nat.le_refl _⟩) : xCall RX1 R 82 true 5 (xrcv 2 S) := xcallV 2 w_X2_valueOf rfl (lw_m 2 187 (by decide +kernel)) hM hR
theorem k_X1_86 {R : Room} {d : Nat} {S : XS} (hM : xCT d yJ9_min_7cf53 cJ9_min_7cf53 2 (some .int) S) (hR : d + 1 ≤ R.frames ∧ 40 * d + 40 ≤ R.locals := by exact ⟨Nat.le_refl _, Nat.le_refl _⟩) : xCall RX1 R 86 false 2 S := xcallS w_J9_min_7cf53 (lw_m 3 164 (by decide +kernel)) hM hR
theorem k_X1_90 {R : Room} {d : Nat} {S : XS} (hM : xCT d yX1_draw cX1_draw 1 (some .int) S) (hR : d + 1 ≤ R.frames ∧ 40 * d + 40 ≤ R.locals := by exact ⟨Nat.le_refl _, Nat.le_refl _⟩) : xCall RX1 R 90 true 1 (xrcv 1 S) := xcallV 1 w_X1_draw rfl (lw_m 3 183 (by decide +kernel)) hM hR
theorem k_X1_94 {R : Room} {d : Nat} {S : XS} (hM : xCT d yX1_countedRound cX1_countedRound 4 (some .int) S) (hR : d + 1 ≤ R.frames ∧ 40 * d + 40 ≤ R.locals := by exact ⟨Nat.le_refl _, Nat.le_refl _⟩) : xCall RX1 R 94 true 2 (xrcv 1 S) := xcallV 1 w_X1_countedRound rfl (lw_m 3 188 (by decide +kernel)) hM hR
-- link X1 98 ('java/lang/System', 'arraycopy', '(Ljava/lang/Object;ILjava/lang/Object;II)V')
theorem k_X1_104 {R : Room} {d : Nat} {S : XS} (hM : xCT d yX2_copyFrom cX2_copyFrom 2 none S) (hR : d + 1 ≤ R.frames ∧ 40 * d + 40 ≤ R.locals := by exact ⟨Nat.le_refl _, Nat.le_refl _⟩) : xCall RX1 R 104 true 2 (xrcv 2 S) := xcallV 2 w_X2_copyFrom rfl (lw_m 4 202 (by decide +kernel)) hM hR
-- link X2 3 ('java/lang/Object', '<init>', '()V')
-- link X2 25 ('java/lang/System', 'arraycopy', '(Ljava/lang/Object;ILjava/lang/Object;II)V')
theorem k_X2_31 {R : Room} {d : Nat} {S : XS} (hM : xCT d yX2_joined cX2_joined 3 (some .int) S) (hR : d + 1 ≤ R.frames ∧ 40 * d + 40 ≤ R.locals := by exact ⟨Nat.le_refl _, Nat.le_refl _⟩) : xCall RX2 R 31 false 3 S := xcallS w_X2_joined (lw_m 2 191 (by decide +kernel)) hM hR
-- link X3 3 ('java/lang/Object', '<init>', '()V')
-- link X3 35 ('java/lang/System', 'arraycopy', '(Ljava/lang/Object;ILjava/lang/Object;II)V')
theorem k_X3_43 {R : Room} {d : Nat} {S : XS} (hM : xCT d yX2_clear cX2_clear 1 none S) (hR : d + 1 ≤ R.frames ∧ 40 * d + 40 ≤ R.locals := by exact ⟨Nat.le_refl _, Nat.le_refl _⟩) : xCall RX3 R 43 true 1 (xrcv 2 S) := xcallV 2 w_X2_clear rfl (lw_m 3 20 (by decide +kernel)) hM hR
theorem k_X3_46 {R : Room} {d : Nat} {S : XS} (hM : xCT d yX3_readEither cX3_readEither 4 (some .boolean) S) (hR : d + 1 ≤ R.frames ∧ 40 * d + 40 ≤ R.locals := by exact ⟨Nat.le_refl _, Nat.le_refl _⟩) : xCall RX3 R 46 true 2 (xrcv 3 S) := xcallV 3 w_X3_readEither rfl (lw_m 3 24 (by decide +kernel)) hM hR
theorem k_X3_50 {R : Room} {d : Nat} {S : XS} (hM : xCT d yX3_readBoth cX3_readBoth 4 (some .boolean) S) (hR : d + 1 ≤ R.frames ∧ 40 * d + 40 ≤ R.locals := by exact ⟨Nat.le_refl _, Nat.le_refl _⟩) : xCall RX3 R 50 true 2 (xrcv 3 S) := xcallV 3 w_X3_readBoth rfl (lw_m 3 28 (by decide +kernel)) hM hR
theorem k_X3_53 {R : Room} {d : Nat} {S : XS} (hM : xCT d yX3_sign cX3_sign 1 (some .int) S) (hR : d + 1 ≤ R.frames ∧ 40 * d + 40 ≤ R.locals := by exact ⟨Nat.le_refl _, Nat.le_refl _⟩) : xCall RX3 R 53 true 1 (xrcv 3 S) := xcallV 3 w_X3_sign rfl (lw_m 3 48 (by decide +kernel)) hM hR
theorem k_X3_57 {R : Room} {d : Nat} {S : XS} (hM : xCT d yX2_add cX2_add 2 none S) (hR : d + 1 ≤ R.frames ∧ 40 * d + 40 ≤ R.locals := by exact ⟨Nat.le_refl _, Nat.le_refl _⟩) : xCall RX3 R 57 true 2 (xrcv 2 S) := xcallV 2 w_X2_add rfl (lw_m 3 59 (by decide +kernel)) hM hR
theorem k_X3_61 {R : Room} {d : Nat} {S : XS} (hM : xCT d yX3_readCompared cX3_readCompared 4 (some .boolean) S) (hR : d + 1 ≤ R.frames ∧ 40 * d + 40 ≤ R.locals := by exact ⟨Nat.le_refl _, Nat.le_refl _⟩) : xCall RX3 R 61 true 2 (xrcv 3 S) := xcallV 3 w_X3_readCompared rfl (lw_m 3 32 (by decide +kernel)) hM hR
theorem k_X3_64 {R : Room} {d : Nat} {S : XS} (hM : xCT d yX3_readSum cX3_readSum 5 (some .boolean) S) (hR : d + 1 ≤ R.frames ∧ 40 * d + 40 ≤ R.locals := by exact ⟨Nat.le_refl _, Nat.le_refl _⟩) : xCall RX3 R 64 true 2 (xrcv 3 S) := xcallV 3 w_X3_readSum rfl (lw_m 3 36 (by decide +kernel)) hM hR
theorem k_X3_67 {R : Room} {d : Nat} {S : XS} (hM : xCT d yX3_readProduct cX3_readProduct 5 (some .boolean) S) (hR : d + 1 ≤ R.frames ∧ 40 * d + 40 ≤ R.locals := by exact ⟨Nat.le_refl _, Nat.le_refl _⟩) : xCall RX3 R 67 true 2 (xrcv 3 S) := xcallV 3 w_X3_readProduct rfl (lw_m 3 40 (by decide +kernel)) hM hR
theorem k_X3_70 {R : Room} {d : Nat} {S : XS} (hM : xCT d yX3_readPart cX3_readPart 4 (some .boolean) S) (hR : d + 1 ≤ R.frames ∧ 40 * d + 40 ≤ R.locals := by exact ⟨Nat.le_refl _, Nat.le_refl _⟩) : xCall RX3 R 70 true 2 (xrcv 3 S) := xcallV 3 w_X3_readPart rfl (lw_m 3 44 (by decide +kernel)) hM hR
theorem k_X3_73 {R : Room} {d : Nat} {S : XS} (hM : xCT d yX3_isDigit cX3_isDigit 1 (some .boolean) S) (hR : d + 1 ≤ R.frames ∧ 40 * d + 40 ≤ R.locals := by exact ⟨Nat.le_refl _, Nat.le_refl _⟩) : xCall RX3 R 73 false 1 S := xcallS w_X3_isDigit (lw_m 3 52 (by decide +kernel)) hM hR
theorem k_X3_76 {R : Room} {d : Nat} {S : XS} (hM : xCT d yX3_readNumber cX3_readNumber 3 none S) (hR : d + 1 ≤ R.frames ∧ 40 * d + 40 ≤ R.locals := by exact ⟨Nat.le_refl _, Nat.le_refl _⟩) : xCall RX3 R 76 true 1 (xrcv 3 S) := xcallV 3 w_X3_readNumber rfl (lw_m 3 55 (by decide +kernel)) hM hR
theorem k_X3_79 {R : Room} {d : Nat} {S : XS} (hM : xCT d yX3_readOpened cX3_readOpened 4 (some .boolean) S) (hR : d + 1 ≤ R.frames ∧ 40 * d + 40 ≤ R.locals := by exact ⟨Nat.le_refl _, Nat.le_refl _⟩) : xCall RX3 R 79 true 3 (xrcv 3 S) := xcallV 3 w_X3_readOpened rfl (lw_m 3 63 (by decide +kernel)) hM hR
theorem k_X3_83 {R : Room} {d : Nat} {S : XS} (hM : xCT d yJ0_indexOf_0f7a4 cJ0_indexOf_0f7a4 2 (some .int) S) (hR : d + 1 ≤ R.frames ∧ 40 * d + 40 ≤ R.locals := by exact ⟨Nat.le_refl _, Nat.le_refl _⟩) : xCall RX3 R 83 true 2 (xrcvS S) := xcall_VS hM rfl (lw_m 3 67 (by decide +kernel)) w_J0_indexOf_0f7a4.1 w_J0_indexOf_0f7a4.2.1 w_J0_indexOf_0f7a4.2.2.1 w_J0_indexOf_0f7a4.2.2.2.1 w_J0_indexOf_0f7a4.2.2.2.2.1 w_J0_indexOf_0f7a4.2.2.2.2.2 hR
-- link X4 5 ('java/lang/Object', '<init>', '()V')
-- link X4 48 ('java/lang/System', 'arraycopy', '(Ljava/lang/Object;ILjava/lang/Object;II)V')
theorem k_X4_54 {R : Room} {d : Nat} {S : XS} (hM : xCT d yX1_stateOf cX1_stateOf 4 (some .int) S) (hR : d + 1 ≤ R.frames ∧ 40 * d + 40 ≤ R.locals := by exact ⟨Nat.le_refl _, Nat.le_refl _⟩) : xCall RX4 R 54 true 2 (xrcv 1 S) := xcallV 1 w_X1_stateOf rfl (lw_m 3 214 (by decide +kernel)) hM hR
theorem k_X4_58 {R : Room} {d : Nat} {S : XS} (hM : xCT d yX4_barOf cX4_barOf 5 (some .int) S) (hR : d + 1 ≤ R.frames ∧ 40 * d + 40 ≤ R.locals := by exact ⟨Nat.le_refl _, Nat.le_refl _⟩) : xCall RX4 R 58 true 3 (xrcv 4 S) := xcallV 4 w_X4_barOf rfl (lw_m 3 215 (by decide +kernel)) hM hR
theorem k_X4_62 {R : Room} {d : Nat} {S : XS} (hM : xCT d yX7_step cX7_step 10 none S) (hR : d + 1 ≤ R.frames ∧ 40 * d + 40 ≤ R.locals := by exact ⟨Nat.le_refl _, Nat.le_refl _⟩) : xCall RX4 R 62 true 4 (xrcv 7 S) := xcallV 7 w_X7_step rfl (lw_m 3 220 (by decide +kernel)) hM hR
theorem k_X4_78 {R : Room} {d : Nat} {S : XS} (hM : xCT d yX4_usesNumber cX4_usesNumber 1 (some .boolean) S) (hR : d + 1 ≤ R.frames ∧ 40 * d + 40 ≤ R.locals := by exact ⟨Nat.le_refl _, Nat.le_refl _⟩) : xCall RX4 R 78 false 1 S := xcallS w_X4_usesNumber (lw_m 4 119 (by decide +kernel)) hM hR
theorem k_X4_85 {R : Room} {d : Nat} {S : XS} (hM : xCT d yX7_forget cX7_forget 2 none S) (hR : d + 1 ≤ R.frames ∧ 40 * d + 40 ≤ R.locals := by exact ⟨Nat.le_refl _, Nat.le_refl _⟩) : xCall RX4 R 85 true 2 (xrcv 7 S) := xcallV 7 w_X7_forget rfl (lw_m 4 122 (by decide +kernel)) hM hR
theorem k_X4_89 {R : Room} {d : Nat} {S : XS} (hM : xCT d yX4_comesRound cX4_comesRound 5 (some .boolean) S) (hR : d + 1 ≤ R.frames ∧ 40 * d + 40 ≤ R.locals := by exact ⟨Nat.le_refl _, Nat.le_refl _⟩) : xCall RX4 R 89 true 3 (xrcv 4 S) := xcallV 4 w_X4_comesRound rfl (lw_m 4 123 (by decide +kernel)) hM hR
theorem k_X4_93 {R : Room} {d : Nat} {S : XS} (hM : xCT d yX4_keepLonger cX4_keepLonger 3 none S) (hR : d + 1 ≤ R.frames ∧ 40 * d + 40 ≤ R.locals := by exact ⟨Nat.le_refl _, Nat.le_refl _⟩) : xCall RX4 R 93 true 3 (xrcv 4 S) := xcallV 4 w_X4_keepLonger rfl (lw_m 4 124 (by decide +kernel)) hM hR
-- link X5 3 ('java/lang/Object', '<init>', '()V')
-- link X5 18 ('java/lang/System', 'arraycopy', '(Ljava/lang/Object;ILjava/lang/Object;II)V')
theorem k_X5_24 {R : Room} {d : Nat} {S : XS} (hM : xCT d yX7_step cX7_step 10 none S) (hR : d + 1 ≤ R.frames ∧ 40 * d + 40 ≤ R.locals := by exact ⟨Nat.le_refl _, Nat.le_refl _⟩) : xCall RX5 R 24 true 4 (xrcv 7 S) := xcallV 7 w_X7_step rfl (lw_m 2 172 (by decide +kernel)) hM hR
-- link X6 3 ('java/lang/Object', '<init>', '()V')
theorem k_X6_23 {R : Room} {d : Nat} {S : XS} (hM : xCT d yJ7_fill_53178 cJ7_fill_53178 4 none S) (hR : d + 1 ≤ R.frames ∧ 40 * d + 40 ≤ R.locals := by exact ⟨Nat.le_refl _, Nat.le_refl _⟩) : xCall RX6 R 23 false 2 S := xcallS w_J7_fill_53178 (lw_m 4 167 (by decide +kernel)) hM hR
-- link X6 29 ('java/lang/System', 'arraycopy', '(Ljava/lang/Object;ILjava/lang/Object;II)V')
-- link X7 3 ('java/lang/Object', '<init>', '()V')
theorem k_X7_16 {R : Room} {d : Nat} {S : XS} (hM : xCT d yJ7_fill_53178 cJ7_fill_53178 4 none S) (hR : d + 1 ≤ R.frames ∧ 40 * d + 40 ≤ R.locals := by exact ⟨Nat.le_refl _, Nat.le_refl _⟩) : xCall RX7 R 16 false 2 S := xcallS w_J7_fill_53178 (lw_m 2 130 (by decide +kernel)) hM hR
theorem k_X7_22 {R : Room} {d : Nat} {S : XS} (hM : xCT d yX7_forget cX7_forget 2 none S) (hR : d + 1 ≤ R.frames ∧ 40 * d + 40 ≤ R.locals := by exact ⟨Nat.le_refl _, Nat.le_refl _⟩) : xCall RX7 R 22 true 2 (xrcv 7 S) := xcallV 7 w_X7_forget rfl (lw_m 2 126 (by decide +kernel)) hM hR
theorem k_X7_45 {R : Room} {d : Nat} {S : XS} (hM : xCT d yX1_sumOf cX1_sumOf 7 (some .long) S) (hR : d + 1 ≤ R.frames ∧ 40 * d + 40 ≤ R.locals := by exact ⟨Nat.le_refl _, Nat.le_refl _⟩) : xCall RX7 R 45 true 6 (xrcv 1 S) := xcallV 1 w_X1_sumOf rfl (lw_m 2 176 (by decide +kernel)) hM hR
theorem k_X7_49 {R : Room} {d : Nat} {S : XS} (hM : xCT d yX1_countedRound cX1_countedRound 4 (some .int) S) (hR : d + 1 ≤ R.frames ∧ 40 * d + 40 ≤ R.locals := by exact ⟨Nat.le_refl _, Nat.le_refl _⟩) : xCall RX7 R 49 true 2 (xrcv 1 S) := xcallV 1 w_X1_countedRound rfl (lw_m 2 194 (by decide +kernel)) hM hR
-- link X8 3 ('java/lang/Object', '<init>', '()V')
theorem k_X8_36 {R : Room} {d : Nat} {S : XS} (hM : xCT d yX8_own cX8_own 4 (some .int) S) (hR : d + 1 ≤ R.frames ∧ 40 * d + 40 ≤ R.locals := by exact ⟨Nat.le_refl _, Nat.le_refl _⟩) : xCall RX8 R 36 true 4 (xrcv 8 S) := xcallV 8 w_X8_own rfl (lw_m 4 140 (by decide +kernel)) hM hR
theorem k_X8_40 {R : Room} {d : Nat} {S : XS} (hM : xCT d yX8_from cX8_from 7 (some .int) S) (hR : d + 1 ≤ R.frames ∧ 40 * d + 40 ≤ R.locals := by exact ⟨Nat.le_refl _, Nat.le_refl _⟩) : xCall RX8 R 40 true 5 (xrcv 8 S) := xcallV 8 w_X8_from rfl (lw_m 4 144 (by decide +kernel)) hM hR
theorem k_X8_50 {R : Room} {d : Nat} {S : XS} (hM : xCT d yX8_perform cX8_perform 5 (some .int) S) (hR : d + 1 ≤ R.frames ∧ 40 * d + 40 ≤ R.locals := by exact ⟨Nat.le_refl _, Nat.le_refl _⟩) : xCall RX8 R 50 true 5 (xrcv 8 S) := xcallV 8 w_X8_perform rfl (lw_m 4 151 (by decide +kernel)) hM hR
-- link L 9 ('RingChoir', '<init>', '()V')
-- link L 12 ('RingChoirModel', '<init>', '()V')
theorem k_L_13 {R : Room} {d : Nat} {S : XS} (hM : xCT d yX9_notes cX9_notes 3 (some .int) S) (hR : d + 1 ≤ R.frames ∧ 40 * d + 40 ≤ R.locals := by exact ⟨Nat.le_refl _, Nat.le_refl _⟩) : xCall RL R 13 true 2 (xrcv 9 S) := xcallV 9 w_X9_notes rfl (lw_m 2 110 (by decide +kernel)) hM hR
theorem k_L_17 {R : Room} {d : Nat} {S : XS} (hM : xCT d yX10_notes cX10_notes 3 (some .int) S) (hR : d + 1 ≤ R.frames ∧ 40 * d + 40 ≤ R.locals := by exact ⟨Nat.le_refl _, Nat.le_refl _⟩) : xCall RL R 17 true 2 (xrcv 10 S) := xcallV 10 w_X10_notes rfl (lw_m 5 160 (by decide +kernel)) hM hR
theorem k_L_18 {R : Room} {d : Nat} {S : XS} (hM : xCT d yX9_singer cX9_singer 4 (some .int) S) (hR : d + 1 ≤ R.frames ∧ 40 * d + 40 ≤ R.locals := by exact ⟨Nat.le_refl _, Nat.le_refl _⟩) : xCall RL R 18 true 3 (xrcv 9 S) := xcallV 9 w_X9_singer rfl (lw_m 2 133 (by decide +kernel)) hM hR
theorem k_L_22 {R : Room} {d : Nat} {S : XS} (hM : xCT d yX10_singer cX10_singer 4 (some .int) S) (hR : d + 1 ≤ R.frames ∧ 40 * d + 40 ≤ R.locals := by exact ⟨Nat.le_refl _, Nat.le_refl _⟩) : xCall RL R 22 true 3 (xrcv 10 S) := xcallV 10 w_X10_singer rfl (lw_m 5 170 (by decide +kernel)) hM hR
theorem k_L_23 {R : Room} {d : Nat} {S : XS} (hM : xCT d yX9_ofSinger cX9_ofSinger 3 (some .int) S) (hR : d + 1 ≤ R.frames ∧ 40 * d + 40 ≤ R.locals := by exact ⟨Nat.le_refl _, Nat.le_refl _⟩) : xCall RL R 23 true 3 (xrcv 9 S) := xcallV 9 w_X9_ofSinger rfl (lw_m 2 149 (by decide +kernel)) hM hR
theorem k_L_26 {R : Room} {d : Nat} {S : XS} (hM : xCT d yX10_ofSinger cX10_ofSinger 3 (some .int) S) (hR : d + 1 ≤ R.frames ∧ 40 * d + 40 ≤ R.locals := by exact ⟨Nat.le_refl _, Nat.le_refl _⟩) : xCall RL R 26 true 3 (xrcv 10 S) := xcallV 10 w_X10_ofSinger rfl (lw_m 5 184 (by decide +kernel)) hM hR
theorem k_L_27 {R : Room} {d : Nat} {S : XS} (hM : xCT d yX9_rule cX9_rule 5 (some .int) S) (hR : d + 1 ≤ R.frames ∧ 40 * d + 40 ≤ R.locals := by exact ⟨Nat.le_refl _, Nat.le_refl _⟩) : xCall RL R 27 true 4 (xrcv 9 S) := xcallV 9 w_X9_rule rfl (lw_m 2 198 (by decide +kernel)) hM hR
theorem k_L_31 {R : Room} {d : Nat} {S : XS} (hM : xCT d yX10_rule cX10_rule 5 (some .int) S) (hR : d + 1 ≤ R.frames ∧ 40 * d + 40 ≤ R.locals := by exact ⟨Nat.le_refl _, Nat.le_refl _⟩) : xCall RL R 31 true 4 (xrcv 10 S) := xcallV 10 w_X10_rule rfl (lw_m 5 197 (by decide +kernel)) hM hR
theorem k_L_32 {R : Room} {d : Nat} {S : XS} (hM : xCT d yX9_as cX9_as 3 (some .int) S) (hR : d + 1 ≤ R.frames ∧ 40 * d + 40 ≤ R.locals := by exact ⟨Nat.le_refl _, Nat.le_refl _⟩) : xCall RL R 32 true 3 (xrcv 9 S) := xcallV 9 w_X9_as rfl (lw_m 2 202 (by decide +kernel)) hM hR
theorem k_L_35 {R : Room} {d : Nat} {S : XS} (hM : xCT d yX10_as cX10_as 3 (some .int) S) (hR : d + 1 ≤ R.frames ∧ 40 * d + 40 ≤ R.locals := by exact ⟨Nat.le_refl _, Nat.le_refl _⟩) : xCall RL R 35 true 3 (xrcv 10 S) := xcallV 10 w_X10_as rfl (lw_m 5 201 (by decide +kernel)) hM hR
theorem k_L_36 {R : Room} {d : Nat} {S : XS} (hM : xCT d yX9_net cX9_net 4 (some .int) S) (hR : d + 1 ≤ R.frames ∧ 40 * d + 40 ≤ R.locals := by exact ⟨Nat.le_refl _, Nat.le_refl _⟩) : xCall RL R 36 true 4 (xrcv 9 S) := xcallV 9 w_X9_net rfl (lw_m 2 211 (by decide +kernel)) hM hR
theorem k_L_39 {R : Room} {d : Nat} {S : XS} (hM : xCT d yX10_net cX10_net 4 (some .int) S) (hR : d + 1 ≤ R.frames ∧ 40 * d + 40 ≤ R.locals := by exact ⟨Nat.le_refl _, Nat.le_refl _⟩) : xCall RL R 39 true 4 (xrcv 10 S) := xcallV 10 w_X10_net rfl (lw_m 5 208 (by decide +kernel)) hM hR
theorem k_L_40 {R : Room} {d : Nat} {S : XS} (hM : xCT d yX9_ring cX9_ring 3 (some .int) S) (hR : d + 1 ≤ R.frames ∧ 40 * d + 40 ≤ R.locals := by exact ⟨Nat.le_refl _, Nat.le_refl _⟩) : xCall RL R 40 true 2 (xrcv 9 S) := xcallV 9 w_X9_ring rfl (lw_m 2 215 (by decide +kernel)) hM hR
theorem k_L_43 {R : Room} {d : Nat} {S : XS} (hM : xCT d yX10_ring cX10_ring 3 (some .int) S) (hR : d + 1 ≤ R.frames ∧ 40 * d + 40 ≤ R.locals := by exact ⟨Nat.le_refl _, Nat.le_refl _⟩) : xCall RL R 43 true 2 (xrcv 10 S) := xcallV 10 w_X10_ring rfl (lw_m 5 212 (by decide +kernel)) hM hR
theorem k_L_44 {R : Room} {d : Nat} {S : XS} (hM : xCT d yX9_sing cX9_sing 6 (some .int) S) (hR : d + 1 ≤ R.frames ∧ 40 * d + 40 ≤ R.locals := by exact ⟨Nat.le_refl _, Nat.le_refl _⟩) : xCall RL R 44 true 4 (xrcv 9 S) := xcallV 9 w_X9_sing rfl (lw_m 2 220 (by decide +kernel)) hM hR
theorem k_L_47 {R : Room} {d : Nat} {S : XS} (hM : xCT d yX10_sing cX10_sing 6 (some .int) S) (hR : d + 1 ≤ R.frames ∧ 40 * d + 40 ≤ R.locals := by exact ⟨Nat.le_refl _, Nat.le_refl _⟩) : xCall RL R 47 true 4 (xrcv 10 S) := xcallV 10 w_X10_sing rfl (lw_m 5 216 (by decide +kernel)) hM hR
theorem k_L_48 {R : Room} {d : Nat} {S : XS} (hM : xCT d yX9_begin cX9_begin 4 (some .int) S) (hR : d + 1 ≤ R.frames ∧ 40 * d + 40 ≤ R.locals := by exact ⟨Nat.le_refl _, Nat.le_refl _⟩) : xCall RL R 48 true 2 (xrcv 9 S) := xcallV 9 w_X9_begin rfl (lw_m 2 224 (by decide +kernel)) hM hR
theorem k_L_51 {R : Room} {d : Nat} {S : XS} (hM : xCT d yX10_begin cX10_begin 3 (some .int) S) (hR : d + 1 ≤ R.frames ∧ 40 * d + 40 ≤ R.locals := by exact ⟨Nat.le_refl _, Nat.le_refl _⟩) : xCall RL R 51 true 2 (xrcv 10 S) := xcallV 10 w_X10_begin rfl (lw_m 5 220 (by decide +kernel)) hM hR
theorem k_L_54 {R : Room} {d : Nat} {S : XS} (hM : xCT d yX9_feed cX9_feed 5 (some .int) S) (hR : d + 1 ≤ R.frames ∧ 40 * d + 40 ≤ R.locals := by exact ⟨Nat.le_refl _, Nat.le_refl _⟩) : xCall RL R 54 true 3 (xrcv 9 S) := xcallV 9 w_X9_feed rfl (lw_m 3 6 (by decide +kernel)) hM hR
theorem k_L_58 {R : Room} {d : Nat} {S : XS} (hM : xCT d yX10_feed cX10_feed 5 (some .int) S) (hR : d + 1 ≤ R.frames ∧ 40 * d + 40 ≤ R.locals := by exact ⟨Nat.le_refl _, Nat.le_refl _⟩) : xCall RL R 58 true 3 (xrcv 10 S) := xcallV 10 w_X10_feed rfl (lw_m 5 84 (by decide +kernel)) hM hR
theorem k_L_59 {R : Room} {d : Nat} {S : XS} (hM : xCT d yX9_text cX9_text 3 (some .int) S) (hR : d + 1 ≤ R.frames ∧ 40 * d + 40 ≤ R.locals := by exact ⟨Nat.le_refl _, Nat.le_refl _⟩) : xCall RL R 59 true 2 (xrcv 9 S) := xcallV 9 w_X9_text rfl (lw_m 3 10 (by decide +kernel)) hM hR
theorem k_L_62 {R : Room} {d : Nat} {S : XS} (hM : xCT d yX10_text cX10_text 5 (some .int) S) (hR : d + 1 ≤ R.frames ∧ 40 * d + 40 ≤ R.locals := by exact ⟨Nat.le_refl _, Nat.le_refl _⟩) : xCall RL R 62 true 2 (xrcv 10 S) := xcallV 10 w_X10_text rfl (lw_m 5 98 (by decide +kernel)) hM hR
theorem k_L_63 {R : Room} {d : Nat} {S : XS} (hM : xCT d yX9_law cX9_law 6 (some .int) S) (hR : d + 1 ≤ R.frames ∧ 40 * d + 40 ≤ R.locals := by exact ⟨Nat.le_refl _, Nat.le_refl _⟩) : xCall RL R 63 true 6 (xrcv 9 S) := xcallV 9 w_X9_law rfl (lw_m 3 154 (by decide +kernel)) hM hR
theorem k_L_67 {R : Room} {d : Nat} {S : XS} (hM : xCT d yX10_law cX10_law 6 (some .int) S) (hR : d + 1 ≤ R.frames ∧ 40 * d + 40 ≤ R.locals := by exact ⟨Nat.le_refl _, Nat.le_refl _⟩) : xCall RL R 67 true 6 (xrcv 10 S) := xcallV 10 w_X10_law rfl (lw_m 5 148 (by decide +kernel)) hM hR
theorem k_L_68 {R : Room} {d : Nat} {S : XS} (hM : xCT d yX9_bars cX9_bars 2 (some .int) S) (hR : d + 1 ≤ R.frames ∧ 40 * d + 40 ≤ R.locals := by exact ⟨Nat.le_refl _, Nat.le_refl _⟩) : xCall RL R 68 true 2 (xrcv 9 S) := xcallV 9 w_X9_bars rfl (lw_m 3 165 (by decide +kernel)) hM hR
theorem k_L_71 {R : Room} {d : Nat} {S : XS} (hM : xCT d yX10_bars cX10_bars 2 (some .int) S) (hR : d + 1 ≤ R.frames ∧ 40 * d + 40 ≤ R.locals := by exact ⟨Nat.le_refl _, Nat.le_refl _⟩) : xCall RL R 71 true 2 (xrcv 10 S) := xcallV 10 w_X10_bars rfl (lw_m 5 228 (by decide +kernel)) hM hR
theorem k_L_72 {R : Room} {d : Nat} {S : XS} (hM : xCT d yX9_loose cX9_loose 4 (some .int) S) (hR : d + 1 ≤ R.frames ∧ 40 * d + 40 ≤ R.locals := by exact ⟨Nat.le_refl _, Nat.le_refl _⟩) : xCall RL R 72 true 3 (xrcv 9 S) := xcallV 9 w_X9_loose rfl (lw_m 3 175 (by decide +kernel)) hM hR
theorem k_L_75 {R : Room} {d : Nat} {S : XS} (hM : xCT d yX10_loose cX10_loose 5 (some .int) S) (hR : d + 1 ≤ R.frames ∧ 40 * d + 40 ≤ R.locals := by exact ⟨Nat.le_refl _, Nat.le_refl _⟩) : xCall RL R 75 true 3 (xrcv 10 S) := xcallV 10 w_X10_loose rfl (lw_m 6 10 (by decide +kernel)) hM hR
theorem k_L_76 {R : Room} {d : Nat} {S : XS} (hM : xCT d yX9_far cX9_far 3 (some .int) S) (hR : d + 1 ≤ R.frames ∧ 40 * d + 40 ≤ R.locals := by exact ⟨Nat.le_refl _, Nat.le_refl _⟩) : xCall RL R 76 true 3 (xrcv 9 S) := xcallV 9 w_X9_far rfl (lw_m 3 189 (by decide +kernel)) hM hR
theorem k_L_79 {R : Room} {d : Nat} {S : XS} (hM : xCT d yX10_far cX10_far 3 (some .int) S) (hR : d + 1 ≤ R.frames ∧ 40 * d + 40 ≤ R.locals := by exact ⟨Nat.le_refl _, Nat.le_refl _⟩) : xCall RL R 79 true 3 (xrcv 10 S) := xcallV 10 w_X10_far rfl (lw_m 6 20 (by decide +kernel)) hM hR
theorem k_L_80 {R : Room} {d : Nat} {S : XS} (hM : xCT d yX9_worths cX9_worths 4 (some .int) S) (hR : d + 1 ≤ R.frames ∧ 40 * d + 40 ≤ R.locals := by exact ⟨Nat.le_refl _, Nat.le_refl _⟩) : xCall RL R 80 true 2 (xrcv 9 S) := xcallV 9 w_X9_worths rfl (lw_m 3 193 (by decide +kernel)) hM hR
theorem k_L_83 {R : Room} {d : Nat} {S : XS} (hM : xCT d yX10_worths cX10_worths 2 (some .int) S) (hR : d + 1 ≤ R.frames ∧ 40 * d + 40 ≤ R.locals := by exact ⟨Nat.le_refl _, Nat.le_refl _⟩) : xCall RL R 83 true 2 (xrcv 10 S) := xcallV 10 w_X10_worths rfl (lw_m 6 24 (by decide +kernel)) hM hR
theorem k_L_84 {R : Room} {d : Nat} {S : XS} (hM : xCT d yX9_state cX9_state 1 (some .long) S) (hR : d + 1 ≤ R.frames ∧ 40 * d + 40 ≤ R.locals := by exact ⟨Nat.le_refl _, Nat.le_refl _⟩) : xCall RL R 84 true 1 (xrcv 9 S) := xcallV 9 w_X9_state rfl (lw_m 3 197 (by decide +kernel)) hM hR
theorem k_L_88 {R : Room} {d : Nat} {S : XS} (hM : xCT d yX10_state cX10_state 1 (some .long) S) (hR : d + 1 ≤ R.frames ∧ 40 * d + 40 ≤ R.locals := by exact ⟨Nat.le_refl _, Nat.le_refl _⟩) : xCall RL R 88 true 1 (xrcv 10 S) := xcallV 10 w_X10_state rfl (lw_m 6 32 (by decide +kernel)) hM hR
theorem k_L_89 {R : Room} {d : Nat} {S : XS} (hM : xCT d yX9_round cX9_round 2 (some .int) S) (hR : d + 1 ≤ R.frames ∧ 40 * d + 40 ≤ R.locals := by exact ⟨Nat.le_refl _, Nat.le_refl _⟩) : xCall RL R 89 true 2 (xrcv 9 S) := xcallV 9 w_X9_round rfl (lw_m 3 205 (by decide +kernel)) hM hR
theorem k_L_92 {R : Room} {d : Nat} {S : XS} (hM : xCT d yX10_round cX10_round 2 (some .int) S) (hR : d + 1 ≤ R.frames ∧ 40 * d + 40 ≤ R.locals := by exact ⟨Nat.le_refl _, Nat.le_refl _⟩) : xCall RL R 92 true 2 (xrcv 10 S) := xcallV 10 w_X10_round rfl (lw_m 6 40 (by decide +kernel)) hM hR
theorem k_L_93 {R : Room} {d : Nat} {S : XS} (hM : xCT d yX9_beginnings cX9_beginnings 3 (some .int) S) (hR : d + 1 ≤ R.frames ∧ 40 * d + 40 ≤ R.locals := by exact ⟨Nat.le_refl _, Nat.le_refl _⟩) : xCall RL R 93 true 3 (xrcv 9 S) := xcallV 9 w_X9_beginnings rfl (lw_m 3 221 (by decide +kernel)) hM hR
theorem k_L_96 {R : Room} {d : Nat} {S : XS} (hM : xCT d yX10_beginnings cX10_beginnings 7 (some .int) S) (hR : d + 1 ≤ R.frames ∧ 40 * d + 40 ≤ R.locals := by exact ⟨Nat.le_refl _, Nat.le_refl _⟩) : xCall RL R 96 true 3 (xrcv 10 S) := xcallV 10 w_X10_beginnings rfl (lw_m 6 52 (by decide +kernel)) hM hR
theorem k_L_97 {R : Room} {d : Nat} {S : XS} (hM : xCT d yX9_best cX9_best 2 (some .int) S) (hR : d + 1 ≤ R.frames ∧ 40 * d + 40 ≤ R.locals := by exact ⟨Nat.le_refl _, Nat.le_refl _⟩) : xCall RL R 97 true 2 (xrcv 9 S) := xcallV 9 w_X9_best rfl (lw_m 4 15 (by decide +kernel)) hM hR
theorem k_L_100 {R : Room} {d : Nat} {S : XS} (hM : xCT d yX10_best cX10_best 6 (some .int) S) (hR : d + 1 ≤ R.frames ∧ 40 * d + 40 ≤ R.locals := by exact ⟨Nat.le_refl _, Nat.le_refl _⟩) : xCall RL R 100 true 2 (xrcv 10 S) := xcallV 10 w_X10_best rfl (lw_m 6 73 (by decide +kernel)) hM hR
theorem k_L_101 {R : Room} {d : Nat} {S : XS} (hM : xCT d yX9_before cX9_before 2 (some .int) S) (hR : d + 1 ≤ R.frames ∧ 40 * d + 40 ≤ R.locals := by exact ⟨Nat.le_refl _, Nat.le_refl _⟩) : xCall RL R 101 true 2 (xrcv 9 S) := xcallV 9 w_X9_before rfl (lw_m 4 32 (by decide +kernel)) hM hR
theorem k_L_104 {R : Room} {d : Nat} {S : XS} (hM : xCT d yX10_before cX10_before 6 (some .int) S) (hR : d + 1 ≤ R.frames ∧ 40 * d + 40 ≤ R.locals := by exact ⟨Nat.le_refl _, Nat.le_refl _⟩) : xCall RL R 104 true 2 (xrcv 10 S) := xcallV 10 w_X10_before rfl (lw_m 6 77 (by decide +kernel)) hM hR
theorem k_L_105 {R : Room} {d : Nat} {S : XS} (hM : xCT d yX9_never cX9_never 1 (some .int) S) (hR : d + 1 ≤ R.frames ∧ 40 * d + 40 ≤ R.locals := by exact ⟨Nat.le_refl _, Nat.le_refl _⟩) : xCall RL R 105 true 1 (xrcv 9 S) := xcallV 9 w_X9_never rfl (lw_m 4 40 (by decide +kernel)) hM hR
theorem k_L_109 {R : Room} {d : Nat} {S : XS} (hM : xCT d yX10_never cX10_never 3 (some .int) S) (hR : d + 1 ≤ R.frames ∧ 40 * d + 40 ≤ R.locals := by exact ⟨Nat.le_refl _, Nat.le_refl _⟩) : xCall RL R 109 true 1 (xrcv 10 S) := xcallV 10 w_X10_never rfl (lw_m 6 81 (by decide +kernel)) hM hR
theorem k_L_110 {R : Room} {d : Nat} {S : XS} (hM : xCT d yX9_rings cX9_rings 2 (some .int) S) (hR : d + 1 ≤ R.frames ∧ 40 * d + 40 ≤ R.locals := by exact ⟨Nat.le_refl _, Nat.le_refl _⟩) : xCall RL R 110 true 2 (xrcv 9 S) := xcallV 9 w_X9_rings rfl (lw_m 4 48 (by decide +kernel)) hM hR
theorem k_L_113 {R : Room} {d : Nat} {S : XS} (hM : xCT d yX10_rings cX10_rings 8 (some .int) S) (hR : d + 1 ≤ R.frames ∧ 40 * d + 40 ≤ R.locals := by exact ⟨Nat.le_refl _, Nat.le_refl _⟩) : xCall RL R 113 true 2 (xrcv 10 S) := xcallV 10 w_X10_rings rfl (lw_m 6 89 (by decide +kernel)) hM hR
theorem k_L_114 {R : Room} {d : Nat} {S : XS} (hM : xCT d yX9_fewest cX9_fewest 4 (some .int) S) (hR : d + 1 ≤ R.frames ∧ 40 * d + 40 ≤ R.locals := by exact ⟨Nat.le_refl _, Nat.le_refl _⟩) : xCall RL R 114 true 2 (xrcv 9 S) := xcallV 9 w_X9_fewest rfl (lw_m 4 61 (by decide +kernel)) hM hR
theorem k_L_117 {R : Room} {d : Nat} {S : XS} (hM : xCT d yX10_fewest cX10_fewest 4 (some .int) S) (hR : d + 1 ≤ R.frames ∧ 40 * d + 40 ≤ R.locals := by exact ⟨Nat.le_refl _, Nat.le_refl _⟩) : xCall RL R 117 true 2 (xrcv 10 S) := xcallV 10 w_X10_fewest rfl (lw_m 6 93 (by decide +kernel)) hM hR
theorem k_L_118 {R : Room} {d : Nat} {S : XS} (hM : xCT d yX9_made cX9_made 6 (some .int) S) (hR : d + 1 ≤ R.frames ∧ 40 * d + 40 ≤ R.locals := by exact ⟨Nat.le_refl _, Nat.le_refl _⟩) : xCall RL R 118 true 3 (xrcv 9 S) := xcallV 9 w_X9_made rfl (lw_m 4 71 (by decide +kernel)) hM hR
theorem k_L_121 {R : Room} {d : Nat} {S : XS} (hM : xCT d yX10_made cX10_made 7 (some .int) S) (hR : d + 1 ≤ R.frames ∧ 40 * d + 40 ≤ R.locals := by exact ⟨Nat.le_refl _, Nat.le_refl _⟩) : xCall RL R 121 true 3 (xrcv 10 S) := xcallV 10 w_X10_made rfl (lw_m 6 101 (by decide +kernel)) hM hR
theorem k_L_122 {R : Room} {d : Nat} {S : XS} (hM : xCT d yX9_heard cX9_heard 4 (some .int) S) (hR : d + 1 ≤ R.frames ∧ 40 * d + 40 ≤ R.locals := by exact ⟨Nat.le_refl _, Nat.le_refl _⟩) : xCall RL R 122 true 4 (xrcv 9 S) := xcallV 9 w_X9_heard rfl (lw_m 4 79 (by decide +kernel)) hM hR
theorem k_L_125 {R : Room} {d : Nat} {S : XS} (hM : xCT d yX10_heard cX10_heard 4 (some .int) S) (hR : d + 1 ≤ R.frames ∧ 40 * d + 40 ≤ R.locals := by exact ⟨Nat.le_refl _, Nat.le_refl _⟩) : xCall RL R 125 true 4 (xrcv 10 S) := xcallV 10 w_X10_heard rfl (lw_m 6 105 (by decide +kernel)) hM hR
theorem k_L_126 {R : Room} {d : Nat} {S : XS} (hM : xCT d yX9_gone cX9_gone 4 (some .int) S) (hR : d + 1 ≤ R.frames ∧ 40 * d + 40 ≤ R.locals := by exact ⟨Nat.le_refl _, Nat.le_refl _⟩) : xCall RL R 126 true 3 (xrcv 9 S) := xcallV 9 w_X9_gone rfl (lw_m 4 95 (by decide +kernel)) hM hR
theorem k_L_129 {R : Room} {d : Nat} {S : XS} (hM : xCT d yX10_gone cX10_gone 4 (some .int) S) (hR : d + 1 ≤ R.frames ∧ 40 * d + 40 ≤ R.locals := by exact ⟨Nat.le_refl _, Nat.le_refl _⟩) : xCall RL R 129 true 3 (xrcv 10 S) := xcallV 10 w_X10_gone rfl (lw_m 6 119 (by decide +kernel)) hM hR
theorem k_L_130 {R : Room} {d : Nat} {S : XS} (hM : xCT d yX9_tune cX9_tune 4 (some .int) S) (hR : d + 1 ≤ R.frames ∧ 40 * d + 40 ≤ R.locals := by exact ⟨Nat.le_refl _, Nat.le_refl _⟩) : xCall RL R 130 true 2 (xrcv 9 S) := xcallV 9 w_X9_tune rfl (lw_m 4 99 (by decide +kernel)) hM hR
theorem k_L_133 {R : Room} {d : Nat} {S : XS} (hM : xCT d yX10_tune cX10_tune 4 (some .int) S) (hR : d + 1 ≤ R.frames ∧ 40 * d + 40 ≤ R.locals := by exact ⟨Nat.le_refl _, Nat.le_refl _⟩) : xCall RL R 133 true 2 (xrcv 10 S) := xcallV 10 w_X10_tune rfl (lw_m 6 123 (by decide +kernel)) hM hR
theorem k_L_134 {R : Room} {d : Nat} {S : XS} (hM : xCT d yX9_longer cX9_longer 2 (some .int) S) (hR : d + 1 ≤ R.frames ∧ 40 * d + 40 ≤ R.locals := by exact ⟨Nat.le_refl _, Nat.le_refl _⟩) : xCall RL R 134 true 2 (xrcv 9 S) := xcallV 9 w_X9_longer rfl (lw_m 4 111 (by decide +kernel)) hM hR
theorem k_L_137 {R : Room} {d : Nat} {S : XS} (hM : xCT d yX10_longer cX10_longer 8 (some .int) S) (hR : d + 1 ≤ R.frames ∧ 40 * d + 40 ≤ R.locals := by exact ⟨Nat.le_refl _, Nat.le_refl _⟩) : xCall RL R 137 true 2 (xrcv 10 S) := xcallV 10 w_X10_longer rfl (lw_m 6 131 (by decide +kernel)) hM hR
theorem k_L_138 {R : Room} {d : Nat} {S : XS} (hM : xCT d yX9_seed cX9_seed 3 (some .int) S) (hR : d + 1 ≤ R.frames ∧ 40 * d + 40 ≤ R.locals := by exact ⟨Nat.le_refl _, Nat.le_refl _⟩) : xCall RL R 138 true 2 (xrcv 9 S) := xcallV 9 w_X9_seed rfl (lw_m 4 128 (by decide +kernel)) hM hR
theorem k_L_141 {R : Room} {d : Nat} {S : XS} (hM : xCT d yX10_seed cX10_seed 3 (some .int) S) (hR : d + 1 ≤ R.frames ∧ 40 * d + 40 ≤ R.locals := by exact ⟨Nat.le_refl _, Nat.le_refl _⟩) : xCall RL R 141 true 2 (xrcv 10 S) := xcallV 10 w_X10_seed rfl (lw_m 6 135 (by decide +kernel)) hM hR
theorem k_L_142 {R : Room} {d : Nat} {S : XS} (hM : xCT d yX9_voice cX9_voice 4 (some .int) S) (hR : d + 1 ≤ R.frames ∧ 40 * d + 40 ≤ R.locals := by exact ⟨Nat.le_refl _, Nat.le_refl _⟩) : xCall RL R 142 true 4 (xrcv 9 S) := xcallV 9 w_X9_voice rfl (lw_m 4 132 (by decide +kernel)) hM hR
theorem k_L_145 {R : Room} {d : Nat} {S : XS} (hM : xCT d yX10_voice cX10_voice 5 (some .int) S) (hR : d + 1 ≤ R.frames ∧ 40 * d + 40 ≤ R.locals := by exact ⟨Nat.le_refl _, Nat.le_refl _⟩) : xCall RL R 145 true 4 (xrcv 10 S) := xcallV 10 w_X10_voice rfl (lw_m 6 139 (by decide +kernel)) hM hR
theorem k_L_146 {R : Room} {d : Nat} {S : XS} (hM : xCT d yX9_trace cX9_trace 2 (some .int) S) (hR : d + 1 ≤ R.frames ∧ 40 * d + 40 ≤ R.locals := by exact ⟨Nat.le_refl _, Nat.le_refl _⟩) : xCall RL R 146 true 2 (xrcv 9 S) := xcallV 9 w_X9_trace rfl (lw_m 4 155 (by decide +kernel)) hM hR
theorem k_L_149 {R : Room} {d : Nat} {S : XS} (hM : xCT d yX10_trace cX10_trace 2 (some .int) S) (hR : d + 1 ≤ R.frames ∧ 40 * d + 40 ≤ R.locals := by exact ⟨Nat.le_refl _, Nat.le_refl _⟩) : xCall RL R 149 true 2 (xrcv 10 S) := xcallV 10 w_X10_trace rfl (lw_m 6 170 (by decide +kernel)) hM hR
theorem k_L_150 {R : Room} {d : Nat} {S : XS} (hM : xCT d yX9_sheet cX9_sheet 4 (some .int) S) (hR : d + 1 ≤ R.frames ∧ 40 * d + 40 ≤ R.locals := by exact ⟨Nat.le_refl _, Nat.le_refl _⟩) : xCall RL R 150 true 4 (xrcv 9 S) := xcallV 9 w_X9_sheet rfl (lw_m 4 159 (by decide +kernel)) hM hR
theorem k_L_153 {R : Room} {d : Nat} {S : XS} (hM : xCT d yX10_sheet cX10_sheet 5 (some .int) S) (hR : d + 1 ≤ R.frames ∧ 40 * d + 40 ≤ R.locals := by exact ⟨Nat.le_refl _, Nat.le_refl _⟩) : xCall RL R 153 true 4 (xrcv 10 S) := xcallV 10 w_X10_sheet rfl (lw_m 6 174 (by decide +kernel)) hM hR
theorem k_L_154 {R : Room} {d : Nat} {S : XS} (hM : xCT d yX9_put cX9_put 4 (some .int) S) (hR : d + 1 ≤ R.frames ∧ 40 * d + 40 ≤ R.locals := by exact ⟨Nat.le_refl _, Nat.le_refl _⟩) : xCall RL R 154 true 4 (xrcv 9 S) := xcallV 9 w_X9_put rfl (lw_m 4 168 (by decide +kernel)) hM hR
theorem k_L_157 {R : Room} {d : Nat} {S : XS} (hM : xCT d yX10_put cX10_put 4 (some .int) S) (hR : d + 1 ≤ R.frames ∧ 40 * d + 40 ≤ R.locals := by exact ⟨Nat.le_refl _, Nat.le_refl _⟩) : xCall RL R 157 true 4 (xrcv 10 S) := xcallV 10 w_X10_put rfl (lw_m 6 178 (by decide +kernel)) hM hR
theorem k_L_158 {R : Room} {d : Nat} {S : XS} (hM : xCT d yX9_move cX9_move 6 (some .int) S) (hR : d + 1 ≤ R.frames ∧ 40 * d + 40 ≤ R.locals := by exact ⟨Nat.le_refl _, Nat.le_refl _⟩) : xCall RL R 158 true 6 (xrcv 9 S) := xcallV 9 w_X9_move rfl (lw_m 4 176 (by decide +kernel)) hM hR
theorem k_L_161 {R : Room} {d : Nat} {S : XS} (hM : xCT d yX10_move cX10_move 7 (some .int) S) (hR : d + 1 ≤ R.frames ∧ 40 * d + 40 ≤ R.locals := by exact ⟨Nat.le_refl _, Nat.le_refl _⟩) : xCall RL R 161 true 6 (xrcv 10 S) := xcallV 10 w_X10_move rfl (lw_m 6 182 (by decide +kernel)) hM hR
theorem k_L_162 {R : Room} {d : Nat} {S : XS} (hM : xCT d yX9_image cX9_image 1 (some .int) S) (hR : d + 1 ≤ R.frames ∧ 40 * d + 40 ≤ R.locals := by exact ⟨Nat.le_refl _, Nat.le_refl _⟩) : xCall RL R 162 true 1 (xrcv 9 S) := xcallV 9 w_X9_image rfl (lw_m 4 193 (by decide +kernel)) hM hR
theorem k_L_165 {R : Room} {d : Nat} {S : XS} (hM : xCT d yX10_image cX10_image 1 (some .int) S) (hR : d + 1 ≤ R.frames ∧ 40 * d + 40 ≤ R.locals := by exact ⟨Nat.le_refl _, Nat.le_refl _⟩) : xCall RL R 165 true 1 (xrcv 10 S) := xcallV 10 w_X10_image rfl (lw_m 6 186 (by decide +kernel)) hM hR
theorem k_L_166 {R : Room} {d : Nat} {S : XS} (hM : xCT d yX9_restore cX9_restore 1 (some .int) S) (hR : d + 1 ≤ R.frames ∧ 40 * d + 40 ≤ R.locals := by exact ⟨Nat.le_refl _, Nat.le_refl _⟩) : xCall RL R 166 true 1 (xrcv 9 S) := xcallV 9 w_X9_restore rfl (lw_m 4 203 (by decide +kernel)) hM hR
theorem k_L_169 {R : Room} {d : Nat} {S : XS} (hM : xCT d yX10_restore cX10_restore 1 (some .int) S) (hR : d + 1 ≤ R.frames ∧ 40 * d + 40 ≤ R.locals := by exact ⟨Nat.le_refl _, Nat.le_refl _⟩) : xCall RL R 169 true 1 (xrcv 10 S) := xcallV 10 w_X10_restore rfl (lw_m 6 193 (by decide +kernel)) hM hR
theorem k_L_170 {R : Room} {d : Nat} {S : XS} (hM : xCT d yX9_tell cX9_tell 2 (some .int) S) (hR : d + 1 ≤ R.frames ∧ 40 * d + 40 ≤ R.locals := by exact ⟨Nat.le_refl _, Nat.le_refl _⟩) : xCall RL R 170 true 2 (xrcv 9 S) := xcallV 9 w_X9_tell rfl (lw_m 4 207 (by decide +kernel)) hM hR
theorem k_L_173 {R : Room} {d : Nat} {S : XS} (hM : xCT d yX10_tell cX10_tell 2 (some .int) S) (hR : d + 1 ≤ R.frames ∧ 40 * d + 40 ≤ R.locals := by exact ⟨Nat.le_refl _, Nat.le_refl _⟩) : xCall RL R 173 true 2 (xrcv 10 S) := xcallV 10 w_X10_tell rfl (lw_m 6 197 (by decide +kernel)) hM hR
theorem k_L_174 {R : Room} {d : Nat} {S : XS} (hM : xCT d yX9_check cX9_check 4 (some .int) S) (hR : d + 1 ≤ R.frames ∧ 40 * d + 40 ≤ R.locals := by exact ⟨Nat.le_refl _, Nat.le_refl _⟩) : xCall RL R 174 true 2 (xrcv 9 S) := xcallV 9 w_X9_check rfl (lw_m 4 211 (by decide +kernel)) hM hR
theorem k_L_177 {R : Room} {d : Nat} {S : XS} (hM : xCT d yX10_check cX10_check 4 (some .int) S) (hR : d + 1 ≤ R.frames ∧ 40 * d + 40 ≤ R.locals := by exact ⟨Nat.le_refl _, Nat.le_refl _⟩) : xCall RL R 177 true 2 (xrcv 10 S) := xcallV 10 w_X10_check rfl (lw_m 6 201 (by decide +kernel)) hM hR
theorem k_L_178 {R : Room} {d : Nat} {S : XS} (hM : xCT d yX9_count cX9_count 2 (some .int) S) (hR : d + 1 ≤ R.frames ∧ 40 * d + 40 ≤ R.locals := by exact ⟨Nat.le_refl _, Nat.le_refl _⟩) : xCall RL R 178 true 2 (xrcv 9 S) := xcallV 9 w_X9_count rfl (lw_m 4 215 (by decide +kernel)) hM hR
theorem k_L_181 {R : Room} {d : Nat} {S : XS} (hM : xCT d yX10_count cX10_count 2 (some .int) S) (hR : d + 1 ≤ R.frames ∧ 40 * d + 40 ≤ R.locals := by exact ⟨Nat.le_refl _, Nat.le_refl _⟩) : xCall RL R 181 true 2 (xrcv 10 S) := xcallV 10 w_X10_count rfl (lw_m 6 205 (by decide +kernel)) hM hR
theorem k_L_182 {R : Room} {d : Nat} {S : XS} (hM : xCT d yX9_told cX9_told 2 (some .int) S) (hR : d + 1 ≤ R.frames ∧ 40 * d + 40 ≤ R.locals := by exact ⟨Nat.le_refl _, Nat.le_refl _⟩) : xCall RL R 182 true 2 (xrcv 9 S) := xcallV 9 w_X9_told rfl (lw_m 4 223 (by decide +kernel)) hM hR
theorem k_L_185 {R : Room} {d : Nat} {S : XS} (hM : xCT d yX10_told cX10_told 2 (some .int) S) (hR : d + 1 ≤ R.frames ∧ 40 * d + 40 ≤ R.locals := by exact ⟨Nat.le_refl _, Nat.le_refl _⟩) : xCall RL R 185 true 2 (xrcv 10 S) := xcallV 10 w_X10_told rfl (lw_m 6 213 (by decide +kernel)) hM hR
-- link X10 1 ('java/lang/Object', '<init>', '()V')
theorem k_X10_65 {R : Room} {d : Nat} {S : XS} (hM : xCT d yX10_in cX10_in 6 (some .boolean) S) (hR : d + 1 ≤ R.frames ∧ 40 * d + 40 ≤ R.locals := by exact ⟨Nat.le_refl _, Nat.le_refl _⟩) : xCall RX10 R 65 false 3 S := xcallS w_X10_in (lw_m 5 89 (by decide +kernel)) hM hR
theorem k_X10_82 {R : Room} {d : Nat} {S : XS} (hM : xCT d yX10_here cX10_here 1 (some .int) S) (hR : d + 1 ≤ R.frames ∧ 40 * d + 40 ≤ R.locals := by exact ⟨Nat.le_refl _, Nat.le_refl _⟩) : xCall RX10 R 82 true 1 (xrcv 10 S) := xcallV 10 w_X10_here rfl (lw_m 5 130 (by decide +kernel)) hM hR
theorem k_X10_90 {R : Room} {d : Nat} {S : XS} (hM : xCT d yX10_both cX10_both 3 (some .int) S) (hR : d + 1 ≤ R.frames ∧ 40 * d + 40 ≤ R.locals := by exact ⟨Nat.le_refl _, Nat.le_refl _⟩) : xCall RX10 R 90 true 1 (xrcv 10 S) := xcallV 10 w_X10_both rfl (lw_m 5 110 (by decide +kernel)) hM hR
theorem k_X10_93 {R : Room} {d : Nat} {S : XS} (hM : xCT d yX10_takes cX10_takes 2 (some .boolean) S) (hR : d + 1 ≤ R.frames ∧ 40 * d + 40 ≤ R.locals := by exact ⟨Nat.le_refl _, Nat.le_refl _⟩) : xCall RX10 R 93 true 2 (xrcv 10 S) := xcallV 10 w_X10_takes rfl (lw_m 5 138 (by decide +kernel)) hM hR
theorem k_X10_97 {R : Room} {d : Nat} {S : XS} (hM : xCT d yX10_compared cX10_compared 4 (some .int) S) (hR : d + 1 ≤ R.frames ∧ 40 * d + 40 ≤ R.locals := by exact ⟨Nat.le_refl _, Nat.le_refl _⟩) : xCall RX10 R 97 true 1 (xrcv 10 S) := xcallV 10 w_X10_compared rfl (lw_m 5 114 (by decide +kernel)) hM hR
theorem k_X10_100 {R : Room} {d : Nat} {S : XS} (hM : xCT d yX10_sum cX10_sum 4 (some .int) S) (hR : d + 1 ≤ R.frames ∧ 40 * d + 40 ≤ R.locals := by exact ⟨Nat.le_refl _, Nat.le_refl _⟩) : xCall RX10 R 100 true 1 (xrcv 10 S) := xcallV 10 w_X10_sum rfl (lw_m 5 118 (by decide +kernel)) hM hR
theorem k_X10_103 {R : Room} {d : Nat} {S : XS} (hM : xCT d yX10_product cX10_product 4 (some .int) S) (hR : d + 1 ≤ R.frames ∧ 40 * d + 40 ≤ R.locals := by exact ⟨Nat.le_refl _, Nat.le_refl _⟩) : xCall RX10 R 103 true 1 (xrcv 10 S) := xcallV 10 w_X10_product rfl (lw_m 5 122 (by decide +kernel)) hM hR
theorem k_X10_106 {R : Room} {d : Nat} {S : XS} (hM : xCT d yX10_unit cX10_unit 5 (some .int) S) (hR : d + 1 ≤ R.frames ∧ 40 * d + 40 ≤ R.locals := by exact ⟨Nat.le_refl _, Nat.le_refl _⟩) : xCall RX10 R 106 true 1 (xrcv 10 S) := xcallV 10 w_X10_unit rfl (lw_m 5 126 (by decide +kernel)) hM hR
theorem k_X10_112 {R : Room} {d : Nat} {S : XS} (hM : xCT d yX10_wrong cX10_wrong 1 (some .int) S) (hR : d + 1 ≤ R.frames ∧ 40 * d + 40 ≤ R.locals := by exact ⟨Nat.le_refl _, Nat.le_refl _⟩) : xCall RX10 R 112 true 1 (xrcv 10 S) := xcallV 10 w_X10_wrong rfl (lw_m 5 134 (by decide +kernel)) hM hR
theorem k_X10_115 {R : Room} {d : Nat} {S : XS} (hM : xCT d yX10_either cX10_either 3 (some .int) S) (hR : d + 1 ≤ R.frames ∧ 40 * d + 40 ≤ R.locals := by exact ⟨Nat.le_refl _, Nat.le_refl _⟩) : xCall RX10 R 115 true 1 (xrcv 10 S) := xcallV 10 w_X10_either rfl (lw_m 5 106 (by decide +kernel)) hM hR
theorem k_X10_118 {R : Room} {d : Nat} {S : XS} (hM : xCT d yX10_nameOf cX10_nameOf 2 (some .int) S) (hR : d + 1 ≤ R.frames ∧ 40 * d + 40 ≤ R.locals := by exact ⟨Nat.le_refl _, Nat.le_refl _⟩) : xCall RX10 R 118 true 2 (xrcv 10 S) := xcallV 10 w_X10_nameOf rfl (lw_m 5 142 (by decide +kernel)) hM hR
theorem k_X10_128 {R : Room} {d : Nat} {S : XS} (hM : xCT d yX10_finds cX10_finds 2 (some .int) S) (hR : d + 1 ≤ R.frames ∧ 40 * d + 40 ≤ R.locals := by exact ⟨Nat.le_refl _, Nat.le_refl _⟩) : xCall RX10 R 128 true 2 (xrcv 10 S) := xcallV 10 w_X10_finds rfl (lw_m 5 92 (by decide +kernel)) hM hR
theorem k_X10_133 {R : Room} {d : Nat} {S : XS} (hM : xCT d yX10_worked cX10_worked 5 (some .int) S) (hR : d + 1 ≤ R.frames ∧ 40 * d + 40 ≤ R.locals := by exact ⟨Nat.le_refl _, Nat.le_refl _⟩) : xCall RX10 R 133 true 4 (xrcv 10 S) := xcallV 10 w_X10_worked rfl (lw_m 5 102 (by decide +kernel)) hM hR
theorem k_X10_137 {R : Room} {d : Nat} {S : XS} (hM : xCT d yX10_adds cX10_adds 5 (some .int) S) (hR : d + 1 ≤ R.frames ∧ 40 * d + 40 ≤ R.locals := by exact ⟨Nat.le_refl _, Nat.le_refl _⟩) : xCall RX10 R 137 true 5 (xrcv 10 S) := xcallV 10 w_X10_adds rfl (lw_m 5 152 (by decide +kernel)) hM hR
theorem k_X10_141 {R : Room} {d : Nat} {S : XS} (hM : xCT d yX10_worth cX10_worth 4 (some .int) S) (hR : d + 1 ≤ R.frames ∧ 40 * d + 40 ≤ R.locals := by exact ⟨Nat.le_refl _, Nat.le_refl _⟩) : xCall RX10 R 141 true 3 (xrcv 10 S) := xcallV 10 w_X10_worth rfl (lw_m 5 156 (by decide +kernel)) hM hR
theorem k_X10_149 {R : Room} {d : Nat} {S : XS} (hM : xCT d yX10_its cX10_its 3 (some .int) S) (hR : d + 1 ≤ R.frames ∧ 40 * d + 40 ≤ R.locals := by exact ⟨Nat.le_refl _, Nat.le_refl _⟩) : xCall RX10 R 149 true 3 (xrcv 10 S) := xcallV 10 w_X10_its rfl (lw_m 5 166 (by decide +kernel)) hM hR
theorem k_X10_152 {R : Room} {d : Nat} {S : XS} (hM : xCT d yX10_becomes cX10_becomes 4 none S) (hR : d + 1 ≤ R.frames ∧ 40 * d + 40 ≤ R.locals := by exact ⟨Nat.le_refl _, Nat.le_refl _⟩) : xCall RX10 R 152 true 4 (xrcv 10 S) := xcallV 10 w_X10_becomes rfl (lw_m 5 176 (by decide +kernel)) hM hR
theorem k_X10_160 {R : Room} {d : Nat} {S : XS} (hM : xCT d yX10_hearRing cX10_hearRing 3 none S) (hR : d + 1 ≤ R.frames ∧ 40 * d + 40 ≤ R.locals := by exact ⟨Nat.le_refl _, Nat.le_refl _⟩) : xCall RX10 R 160 true 1 (xrcv 10 S) := xcallV 10 w_X10_hearRing rfl (lw_m 5 180 (by decide +kernel)) hM hR
theorem k_X10_163 {R : Room} {d : Nat} {S : XS} (hM : xCT d yX10_isSinger cX10_isSinger 2 (some .boolean) S) (hR : d + 1 ≤ R.frames ∧ 40 * d + 40 ≤ R.locals := by exact ⟨Nat.le_refl _, Nat.le_refl _⟩) : xCall RX10 R 163 true 2 (xrcv 10 S) := xcallV 10 w_X10_isSinger rfl (lw_m 5 188 (by decide +kernel)) hM hR
theorem k_X10_168 {R : Room} {d : Nat} {S : XS} (hM : xCT d yX10_next cX10_next 10 (some .int) S) (hR : d + 1 ≤ R.frames ∧ 40 * d + 40 ≤ R.locals := by exact ⟨Nat.le_refl _, Nat.le_refl _⟩) : xCall RX10 R 168 true 4 (xrcv 10 S) := xcallV 10 w_X10_next rfl (lw_m 5 193 (by decide +kernel)) hM hR
theorem k_X10_171 {R : Room} {d : Nat} {S : XS} (hM : xCT d yX10_isOf cX10_isOf 2 (some .boolean) S) (hR : d + 1 ≤ R.frames ∧ 40 * d + 40 ≤ R.locals := by exact ⟨Nat.le_refl _, Nat.le_refl _⟩) : xCall RX10 R 171 false 2 S := xcallS w_X10_isOf (lw_m 5 205 (by decide +kernel)) hM hR
theorem k_X10_175 {R : Room} {d : Nat} {S : XS} (hM : xCT d yX10_isSheet cX10_isSheet 1 (some .boolean) S) (hR : d + 1 ≤ R.frames ∧ 40 * d + 40 ≤ R.locals := by exact ⟨Nat.le_refl _, Nat.le_refl _⟩) : xCall RX10 R 175 false 1 S := xcallS w_X10_isSheet (lw_m 5 224 (by decide +kernel)) hM hR
theorem k_X10_178 {R : Room} {d : Nat} {S : XS} (hM : xCT d yX10_goesBy cX10_goesBy 3 none S) (hR : d + 1 ≤ R.frames ∧ 40 * d + 40 ≤ R.locals := by exact ⟨Nat.le_refl _, Nat.le_refl _⟩) : xCall RX10 R 178 true 2 (xrcv 10 S) := xcallV 10 w_X10_goesBy rfl (lw_m 6 2 (by decide +kernel)) hM hR
theorem k_X10_185 {R : Room} {d : Nat} {S : XS} (hM : xCT d yX10_begins cX10_begins 3 none S) (hR : d + 1 ≤ R.frames ∧ 40 * d + 40 ≤ R.locals := by exact ⟨Nat.le_refl _, Nat.le_refl _⟩) : xCall RX10 R 185 true 2 (xrcv 10 S) := xcallV 10 w_X10_begins rfl (lw_m 5 234 (by decide +kernel)) hM hR
theorem k_X10_188 {R : Room} {d : Nat} {S : XS} (hM : xCT d yX10_goesOn cX10_goesOn 4 none S) (hR : d + 1 ≤ R.frames ∧ 40 * d + 40 ≤ R.locals := by exact ⟨Nat.le_refl _, Nat.le_refl _⟩) : xCall RX10 R 188 true 3 (xrcv 10 S) := xcallV 10 w_X10_goesOn rfl (lw_m 5 238 (by decide +kernel)) hM hR
theorem k_X10_192 {R : Room} {d : Nat} {S : XS} (hM : xCT d yX10_ends cX10_ends 3 none S) (hR : d + 1 ≤ R.frames ∧ 40 * d + 40 ≤ R.locals := by exact ⟨Nat.le_refl _, Nat.le_refl _⟩) : xCall RX10 R 192 true 2 (xrcv 10 S) := xcallV 10 w_X10_ends rfl (lw_m 6 6 (by decide +kernel)) hM hR
theorem k_X10_198 {R : Room} {d : Nat} {S : XS} (hM : xCT d yX10_drawn cX10_drawn 1 (some .int) S) (hR : d + 1 ≤ R.frames ∧ 40 * d + 40 ≤ R.locals := by exact ⟨Nat.le_refl _, Nat.le_refl _⟩) : xCall RX10 R 198 true 1 (xrcv 10 S) := xcallV 10 w_X10_drawn rfl (lw_m 6 15 (by decide +kernel)) hM hR
theorem k_X10_201 {R : Room} {d : Nat} {S : XS} (hM : xCT d yX10_worthsOf cX10_worthsOf 4 (some .int) S) (hR : d + 1 ≤ R.frames ∧ 40 * d + 40 ≤ R.locals := by exact ⟨Nat.le_refl _, Nat.le_refl _⟩) : xCall RX10 R 201 true 2 (xrcv 10 S) := xcallV 10 w_X10_worthsOf rfl (lw_m 6 28 (by decide +kernel)) hM hR
theorem k_X10_205 {R : Room} {d : Nat} {S : XS} (hM : xCT d yX10_numberOf cX10_numberOf 4 (some .int) S) (hR : d + 1 ≤ R.frames ∧ 40 * d + 40 ≤ R.locals := by exact ⟨Nat.le_refl _, Nat.le_refl _⟩) : xCall RX10 R 205 true 2 (xrcv 10 S) := xcallV 10 w_X10_numberOf rfl (lw_m 6 36 (by decide +kernel)) hM hR
theorem k_X10_208 {R : Room} {d : Nat} {S : XS} (hM : xCT d yX10_placeOf cX10_placeOf 3 (some .int) S) (hR : d + 1 ≤ R.frames ∧ 40 * d + 40 ≤ R.locals := by exact ⟨Nat.le_refl _, Nat.le_refl _⟩) : xCall RX10 R 208 true 2 (xrcv 10 S) := xcallV 10 w_X10_placeOf rfl (lw_m 6 48 (by decide +kernel)) hM hR
theorem k_X10_217 {R : Room} {d : Nat} {S : XS} (hM : xCT d yX10_findRound cX10_findRound 4 (some .boolean) S) (hR : d + 1 ≤ R.frames ∧ 40 * d + 40 ≤ R.locals := by exact ⟨Nat.le_refl _, Nat.le_refl _⟩) : xCall RX10 R 217 true 1 (xrcv 10 S) := xcallV 10 w_X10_findRound rfl (lw_m 6 44 (by decide +kernel)) hM hR
theorem k_X10_224 {R : Room} {d : Nat} {S : XS} (hM : xCT d yX10_lays cX10_lays 4 none S) (hR : d + 1 ≤ R.frames ∧ 40 * d + 40 ≤ R.locals := by exact ⟨Nat.le_refl _, Nat.le_refl _⟩) : xCall RX10 R 224 true 2 (xrcv 10 S) := xcallV 10 w_X10_lays rfl (lw_m 6 61 (by decide +kernel)) hM hR
theorem k_X10_230 {R : Room} {d : Nat} {S : XS} (hM : xCT d yX10_findAll cX10_findAll 2 (some .boolean) S) (hR : d + 1 ≤ R.frames ∧ 40 * d + 40 ≤ R.locals := by exact ⟨Nat.le_refl _, Nat.le_refl _⟩) : xCall RX10 R 230 true 1 (xrcv 10 S) := xcallV 10 w_X10_findAll rfl (lw_m 6 57 (by decide +kernel)) hM hR
theorem k_X10_233 {R : Room} {d : Nat} {S : XS} (hM : xCT d yX10_findAt cX10_findAt 5 none S) (hR : d + 1 ≤ R.frames ∧ 40 * d + 40 ≤ R.locals := by exact ⟨Nat.le_refl _, Nat.le_refl _⟩) : xCall RX10 R 233 true 2 (xrcv 10 S) := xcallV 10 w_X10_findAt rfl (lw_m 6 65 (by decide +kernel)) hM hR
theorem k_X10_236 {R : Room} {d : Nat} {S : XS} (hM : xCT d yX10_isWished cX10_isWished 3 (some .boolean) S) (hR : d + 1 ≤ R.frames ∧ 40 * d + 40 ≤ R.locals := by exact ⟨Nat.le_refl _, Nat.le_refl _⟩) : xCall RX10 R 236 true 2 (xrcv 10 S) := xcallV 10 w_X10_isWished rfl (lw_m 6 69 (by decide +kernel)) hM hR
theorem k_X10_239 {R : Room} {d : Nat} {S : XS} (hM : xCT d yX10_clears cX10_clears 2 none S) (hR : d + 1 ≤ R.frames ∧ 40 * d + 40 ≤ R.locals := by exact ⟨Nat.le_refl _, Nat.le_refl _⟩) : xCall RX10 R 239 true 1 (xrcv 10 S) := xcallV 10 w_X10_clears rfl (lw_m 6 85 (by decide +kernel)) hM hR
theorem k_X10_242 {R : Room} {d : Nat} {S : XS} (hM : xCT d yX10_sings cX10_sings 8 (some .boolean) S) (hR : d + 1 ≤ R.frames ∧ 40 * d + 40 ≤ R.locals := by exact ⟨Nat.le_refl _, Nat.le_refl _⟩) : xCall RX10 R 242 true 3 (xrcv 10 S) := xcallV 10 w_X10_sings rfl (lw_m 6 97 (by decide +kernel)) hM hR
theorem k_X10_249 {R : Room} {d : Nat} {S : XS} (hM : xCT d yX10_coughs cX10_coughs 3 none S) (hR : d + 1 ≤ R.frames ∧ 40 * d + 40 ≤ R.locals := by exact ⟨Nat.le_refl _, Nat.le_refl _⟩) : xCall RX10 R 249 true 3 (xrcv 10 S) := xcallV 10 w_X10_coughs rfl (lw_m 6 111 (by decide +kernel)) hM hR
theorem k_X10_253 {R : Room} {d : Nat} {S : XS} (hM : xCT d yX10_others cX10_others 3 (some .int) S) (hR : d + 1 ≤ R.frames ∧ 40 * d + 40 ≤ R.locals := by exact ⟨Nat.le_refl _, Nat.le_refl _⟩) : xCall RX10 R 253 true 1 (xrcv 10 S) := xcallV 10 w_X10_others rfl (lw_m 6 115 (by decide +kernel)) hM hR
theorem k_X10_256 {R : Room} {d : Nat} {S : XS} (hM : xCT d yX10_isTune cX10_isTune 5 (some .boolean) S) (hR : d + 1 ≤ R.frames ∧ 40 * d + 40 ≤ R.locals := by exact ⟨Nat.le_refl _, Nat.le_refl _⟩) : xCall RX10 R 256 true 4 (xrcv 10 S) := xcallV 10 w_X10_isTune rfl (lw_m 6 127 (by decide +kernel)) hM hR
theorem k_X10_266 {R : Room} {d : Nat} {S : XS} (hM : xCT d yX10_ran cX10_ran 2 none S) (hR : d + 1 ≤ R.frames ∧ 40 * d + 40 ≤ R.locals := by exact ⟨Nat.le_refl _, Nat.le_refl _⟩) : xCall RX10 R 266 true 2 (xrcv 10 S) := xcallV 10 w_X10_ran rfl (lw_m 6 151 (by decide +kernel)) hM hR
theorem k_X10_269 {R : Room} {d : Nat} {S : XS} (hM : xCT d yX10_above cX10_above 1 (some .int) S) (hR : d + 1 ≤ R.frames ∧ 40 * d + 40 ≤ R.locals := by exact ⟨Nat.le_refl _, Nat.le_refl _⟩) : xCall RX10 R 269 false 1 S := xcallS w_X10_above (lw_m 6 155 (by decide +kernel)) hM hR
theorem k_X10_272 {R : Room} {d : Nat} {S : XS} (hM : xCT d yX10_hears cX10_hears 3 (some .int) S) (hR : d + 1 ≤ R.frames ∧ 40 * d + 40 ≤ R.locals := by exact ⟨Nat.le_refl _, Nat.le_refl _⟩) : xCall RX10 R 272 true 3 (xrcv 10 S) := xcallV 10 w_X10_hears rfl (lw_m 6 147 (by decide +kernel)) hM hR
theorem k_X10_275 {R : Room} {d : Nat} {S : XS} (hM : xCT d yX10_own cX10_own 1 (some .int) S) (hR : d + 1 ≤ R.frames ∧ 40 * d + 40 ≤ R.locals := by exact ⟨Nat.le_refl _, Nat.le_refl _⟩) : xCall RX10 R 275 true 1 (xrcv 10 S) := xcallV 10 w_X10_own rfl (lw_m 6 143 (by decide +kernel)) hM hR
theorem k_X10_278 {R : Room} {d : Nat} {S : XS} (hM : xCT d yX10_voices cX10_voices 4 (some .int) S) (hR : d + 1 ≤ R.frames ∧ 40 * d + 40 ≤ R.locals := by exact ⟨Nat.le_refl _, Nat.le_refl _⟩) : xCall RX10 R 278 true 3 (xrcv 10 S) := xcallV 10 w_X10_voices rfl (lw_m 6 158 (by decide +kernel)) hM hR
theorem k_X10_281 {R : Room} {d : Nat} {S : XS} (hM : xCT d yX10_rests cX10_rests 3 (some .int) S) (hR : d + 1 ≤ R.frames ∧ 40 * d + 40 ≤ R.locals := by exact ⟨Nat.le_refl _, Nat.le_refl _⟩) : xCall RX10 R 281 true 3 (xrcv 10 S) := xcallV 10 w_X10_rests rfl (lw_m 6 162 (by decide +kernel)) hM hR
theorem k_X10_284 {R : Room} {d : Nat} {S : XS} (hM : xCT d yX10_tells cX10_tells 4 (some .int) S) (hR : d + 1 ≤ R.frames ∧ 40 * d + 40 ≤ R.locals := by exact ⟨Nat.le_refl _, Nat.le_refl _⟩) : xCall RX10 R 284 true 3 (xrcv 10 S) := xcallV 10 w_X10_tells rfl (lw_m 6 166 (by decide +kernel)) hM hR
theorem k_X10_289 {R : Room} {d : Nat} {S : XS} (hM : xCT d yX10_copies cX10_copies 3 none S) (hR : d + 1 ≤ R.frames ∧ 40 * d + 40 ≤ R.locals := by exact ⟨Nat.le_refl _, Nat.le_refl _⟩) : xCall RX10 R 289 false 2 S := xcallS w_X10_copies (lw_m 6 190 (by decide +kernel)) hM hR
theorem k_X10_296 {R : Room} {d : Nat} {S : XS} (hM : xCT d yX10_wishes cX10_wishes 3 (some .int) S) (hR : d + 1 ≤ R.frames ∧ 40 * d + 40 ≤ R.locals := by exact ⟨Nat.le_refl _, Nat.le_refl _⟩) : xCall RX10 R 296 true 1 (xrcv 10 S) := xcallV 10 w_X10_wishes rfl (lw_m 6 209 (by decide +kernel)) hM hR
theorem k_J0_335 {R : Room} {d : Nat} {S : XS} (hM : xCT d yJ0_coder_7d493 cJ0_coder_7d493 1 (some .byte) S) (hR : d + 1 ≤ R.frames ∧ 40 * d + 40 ≤ R.locals := by exact ⟨Nat.le_refl _, Nat.le_refl _⟩) : xCall RJ0 R 335 true 1 (xrcvS S) := xcall_VS hM rfl (lw_m 3 85 (by decide +kernel)) w_J0_coder_7d493.1 w_J0_coder_7d493.2.1 w_J0_coder_7d493.2.2.1 w_J0_coder_7d493.2.2.2.1 w_J0_coder_7d493.2.2.2.2.1 w_J0_coder_7d493.2.2.2.2.2 hR
theorem k_J0_492 {R : Room} {d : Nat} {S : XS} (hM : xCT d yJ0_isLatin1_aae02 cJ0_isLatin1_aae02 1 (some .boolean) S) (hR : d + 1 ≤ R.frames ∧ 40 * d + 40 ≤ R.locals := by exact ⟨Nat.le_refl _, Nat.le_refl _⟩) : xCall RJ0 R 492 true 1 (xrcvS S) := xcall_VS hM rfl (lw_m 3 75 (by decide +kernel)) w_J0_isLatin1_aae02.1 w_J0_isLatin1_aae02.2.1 w_J0_isLatin1_aae02.2.2.1 w_J0_isLatin1_aae02.2.2.2.1 w_J0_isLatin1_aae02.2.2.2.2.1 w_J0_isLatin1_aae02.2.2.2.2.2 hR
theorem k_J0_505 {R : Room} {d : Nat} {S : XS} (hM : xCT d yJ0_length_8abf5 cJ0_length_8abf5 1 (some .int) S) (hR : d + 1 ≤ R.frames ∧ 40 * d + 40 ≤ R.locals := by exact ⟨Nat.le_refl _, Nat.le_refl _⟩) : xCall RJ0 R 505 true 1 (xrcvS S) := xcall_VS hM rfl (lw_m 3 81 (by decide +kernel)) w_J0_length_8abf5.1 w_J0_length_8abf5.2.1 w_J0_length_8abf5.2.2.1 w_J0_length_8abf5.2.2.2.1 w_J0_length_8abf5.2.2.2.2.1 w_J0_length_8abf5.2.2.2.2.2 hR
theorem k_J0_633 {R : Room} {d : Nat} {S : XS} (hM : xCT d yJ0_indexOf_7cf53 cJ0_indexOf_7cf53 3 (some .int) S) (hR : d + 1 ≤ R.frames ∧ 40 * d + 40 ≤ R.locals := by exact ⟨Nat.le_refl _, Nat.le_refl _⟩) : xCall RJ0 R 633 true 3 (xrcvS S) := xcall_VS hM rfl (lw_m 3 71 (by decide +kernel)) w_J0_indexOf_7cf53.1 w_J0_indexOf_7cf53.2.1 w_J0_indexOf_7cf53.2.2.1 w_J0_indexOf_7cf53.2.2.2.1 w_J0_indexOf_7cf53.2.2.2.2.1 w_J0_indexOf_7cf53.2.2.2.2.2 hR
theorem k_J0_637 {R : Room} {d : Nat} {S : XS} (hM : xCT d yJ1_indexOf_4cfef cJ1_indexOf_4cfef 4 (some .int) S) (hR : d + 1 ≤ R.frames ∧ 40 * d + 40 ≤ R.locals := by exact ⟨Nat.le_refl _, Nat.le_refl _⟩) : xCall RJ0 R 637 false 4 S := xcallS w_J1_indexOf_4cfef (lw_m 3 89 (by decide +kernel)) hM hR
theorem k_J0_640 {R : Room} {d : Nat} {S : XS} (hM : xCT d yJ2_indexOf_4cfef cJ2_indexOf_4cfef 4 (some .int) S) (hR : d + 1 ≤ R.frames ∧ 40 * d + 40 ≤ R.locals := by exact ⟨Nat.le_refl _, Nat.le_refl _⟩) : xCall RJ0 R 640 false 4 S := xcallS w_J2_indexOf_4cfef (lw_m 3 100 (by decide +kernel)) hM hR
theorem k_J0_1062 {R : Room} {d : Nat} {S : XS} (hM : xCT d yJ3_checkFromToIndex_8c36e cJ3_checkFromToIndex_8c36e 4 (some .int) S) (hR : d + 1 ≤ R.frames ∧ 40 * d + 40 ≤ R.locals := by exact ⟨Nat.le_refl _, Nat.le_refl _⟩) : xCall RJ0 R 1062 false 4 S := xcallS w_J3_checkFromToIndex_8c36e (lw_m 3 120 (by decide +kernel)) hM hR
theorem k_J1_38 {R : Room} {d : Nat} {S : XS} (hM : xCT d yJ9_min_7cf53 cJ9_min_7cf53 2 (some .int) S) (hR : d + 1 ≤ R.frames ∧ 40 * d + 40 ≤ R.locals := by exact ⟨Nat.le_refl _, Nat.le_refl _⟩) : xCall RJ1 R 38 false 2 S := xcallS w_J9_min_7cf53 (lw_m 3 96 (by decide +kernel)) hM hR
theorem k_J1_88 {R : Room} {d : Nat} {S : XS} (hM : xCT d yJ1_canEncode_9a6ad cJ1_canEncode_9a6ad 1 (some .boolean) S) (hR : d + 1 ≤ R.frames ∧ 40 * d + 40 ≤ R.locals := by exact ⟨Nat.le_refl _, Nat.le_refl _⟩) : xCall RJ1 R 88 false 1 S := xcallS w_J1_canEncode_9a6ad (lw_m 3 92 (by decide +kernel)) hM hR
theorem k_J1_92 {R : Room} {d : Nat} {S : XS} (hM : xCT d yJ9_max_7cf53 cJ9_max_7cf53 2 (some .int) S) (hR : d + 1 ≤ R.frames ∧ 40 * d + 40 ≤ R.locals := by exact ⟨Nat.le_refl _, Nat.le_refl _⟩) : xCall RJ1 R 92 false 2 S := xcallS w_J9_max_7cf53 (lw_m 3 95 (by decide +kernel)) hM hR
theorem k_J1_95 {R : Room} {d : Nat} {S : XS} (hM : xCT d yJ1_indexOfChar_4cfef cJ1_indexOfChar_4cfef 6 (some .int) S) (hR : d + 1 ≤ R.frames ∧ 40 * d + 40 ≤ R.locals := by exact ⟨Nat.le_refl _, Nat.le_refl _⟩) : xCall RJ1 R 95 false 4 S := xcallS w_J1_indexOfChar_4cfef (lw_m 3 97 (by decide +kernel)) hM hR
theorem k_J2_48 {R : Room} {d : Nat} {S : XS} (hM : xCT d yJ2_length_9d52b cJ2_length_9d52b 1 (some .int) S) (hR : d + 1 ≤ R.frames ∧ 40 * d + 40 ≤ R.locals := by exact ⟨Nat.le_refl _, Nat.le_refl _⟩) : xCall RJ2 R 48 false 1 S := xcallS w_J2_length_9d52b (lw_m 3 112 (by decide +kernel)) hM hR
theorem k_J2_71 {R : Room} {d : Nat} {S : XS} (hM : xCT d yJ2_getChar_3b067 cJ2_getChar_3b067 2 (some .char) S) (hR : d + 1 ≤ R.frames ∧ 40 * d + 40 ≤ R.locals := by exact ⟨Nat.le_refl _, Nat.le_refl _⟩) : xCall RJ2 R 71 false 2 S := xcallS w_J2_getChar_3b067 (lw_m 3 126 (by decide +kernel)) hM hR
theorem k_J2_96 {R : Room} {d : Nat} {S : XS} (hM : xCT d yJ2_checkBoundsBeginEnd_d044e cJ2_checkBoundsBeginEnd_d044e 3 none S) (hR : d + 1 ≤ R.frames ∧ 40 * d + 40 ≤ R.locals := by exact ⟨Nat.le_refl _, Nat.le_refl _⟩) : xCall RJ2 R 96 false 3 S := xcallS w_J2_checkBoundsBeginEnd_d044e (lw_m 3 109 (by decide +kernel)) hM hR
theorem k_J2_157 {R : Room} {d : Nat} {S : XS} (hM : xCT d yJ11_highSurrogate_5068e cJ11_highSurrogate_5068e 1 (some .char) S) (hR : d + 1 ≤ R.frames ∧ 40 * d + 40 ≤ R.locals := by exact ⟨Nat.le_refl _, Nat.le_refl _⟩) : xCall RJ2 R 157 false 1 S := xcallS w_J11_highSurrogate_5068e (lw_m 3 141 (by decide +kernel)) hM hR
theorem k_J2_161 {R : Room} {d : Nat} {S : XS} (hM : xCT d yJ11_lowSurrogate_5068e cJ11_lowSurrogate_5068e 1 (some .char) S) (hR : d + 1 ≤ R.frames ∧ 40 * d + 40 ≤ R.locals := by exact ⟨Nat.le_refl _, Nat.le_refl _⟩) : xCall RJ2 R 161 false 1 S := xcallS w_J11_lowSurrogate_5068e (lw_m 3 145 (by decide +kernel)) hM hR
theorem k_J2_164 {R : Room} {d : Nat} {S : XS} (hM : xCT d yJ11_isValidCodePoint_9a6ad cJ11_isValidCodePoint_9a6ad 2 (some .boolean) S) (hR : d + 1 ≤ R.frames ∧ 40 * d + 40 ≤ R.locals := by exact ⟨Nat.le_refl _, Nat.le_refl _⟩) : xCall RJ2 R 164 false 1 S := xcallS w_J11_isValidCodePoint_9a6ad (lw_m 3 138 (by decide +kernel)) hM hR
theorem k_J2_183 {R : Room} {d : Nat} {S : XS} (hM : xCT d yJ9_min_7cf53 cJ9_min_7cf53 2 (some .int) S) (hR : d + 1 ≤ R.frames ∧ 40 * d + 40 ≤ R.locals := by exact ⟨Nat.le_refl _, Nat.le_refl _⟩) : xCall RJ2 R 183 false 2 S := xcallS w_J9_min_7cf53 (lw_m 3 104 (by decide +kernel)) hM hR
theorem k_J2_224 {R : Room} {d : Nat} {S : XS} (hM : xCT d yJ9_max_7cf53 cJ9_max_7cf53 2 (some .int) S) (hR : d + 1 ≤ R.frames ∧ 40 * d + 40 ≤ R.locals := by exact ⟨Nat.le_refl _, Nat.le_refl _⟩) : xCall RJ2 R 224 false 2 S := xcallS w_J9_max_7cf53 (lw_m 3 103 (by decide +kernel)) hM hR
theorem k_J2_228 {R : Room} {d : Nat} {S : XS} (hM : xCT d yJ2_indexOfChar_4cfef cJ2_indexOfChar_4cfef 4 (some .int) S) (hR : d + 1 ≤ R.frames ∧ 40 * d + 40 ≤ R.locals := by exact ⟨Nat.le_refl _, Nat.le_refl _⟩) : xCall RJ2 R 228 false 4 S := xcallS w_J2_indexOfChar_4cfef (lw_m 3 106 (by decide +kernel)) hM hR
theorem k_J2_232 {R : Room} {d : Nat} {S : XS} (hM : xCT d yJ2_indexOfSupplementary_4cfef cJ2_indexOfSupplementary_4cfef 7 (some .int) S) (hR : d + 1 ≤ R.frames ∧ 40 * d + 40 ≤ R.locals := by exact ⟨Nat.le_refl _, Nat.le_refl _⟩) : xCall RJ2 R 232 false 4 S := xcallS w_J2_indexOfSupplementary_4cfef (lw_m 3 135 (by decide +kernel)) hM hR
theorem k_J2_241 {R : Room} {d : Nat} {S : XS} (hM : xCT d yJ0_checkBoundsBeginEnd_23922 cJ0_checkBoundsBeginEnd_23922 3 none S) (hR : d + 1 ≤ R.frames ∧ 40 * d + 40 ≤ R.locals := by exact ⟨Nat.le_refl _, Nat.le_refl _⟩) : xCall RJ2 R 241 false 3 S := xcallS w_J0_checkBoundsBeginEnd_23922 (lw_m 3 115 (by decide +kernel)) hM hR
theorem k_J2_244 {R : Room} {d : Nat} {S : XS} (hM : xCT d yJ2_indexOfCharUnsafe_4cfef cJ2_indexOfCharUnsafe_4cfef 5 (some .int) S) (hR : d + 1 ≤ R.frames ∧ 40 * d + 40 ≤ R.locals := by exact ⟨Nat.le_refl _, Nat.le_refl _⟩) : xCall RJ2 R 244 false 4 S := xcallS w_J2_indexOfCharUnsafe_4cfef (lw_m 3 123 (by decide +kernel)) hM hR
theorem k_X1_72_max {R : Room} (hR : 1 ≤ R.frames ∧ 40 ≤ R.locals) : xCall RX1 R 72 false 2 xMax := xcall_max (lw_m 2 180 (by decide +kernel)) (lw_m 2 181 (by decide +kernel)) (lw_m 1 14 (by decide +kernel)) (lw_m 2 182 (by decide +kernel)) hR
theorem k_X9_154_min {R : Room} (hR : 1 ≤ R.frames ∧ 40 ≤ R.locals) : xCall RX9 R 154 false 2 xMin := xcall_min (lw_m 2 239 (by decide +kernel)) (lw_m 3 0 (by decide +kernel)) (lw_m 1 14 (by decide +kernel)) (lw_m 3 1 (by decide +kernel)) hR
theorem k_J1_92_max {R : Room} (hR : 1 ≤ R.frames ∧ 40 ≤ R.locals) : xCall RJ1 R 92 false 2 xMax := xcall_max (lw_m 3 95 (by decide +kernel)) (lw_m 2 181 (by decide +kernel)) (lw_m 1 14 (by decide +kernel)) (lw_m 2 182 (by decide +kernel)) hR
theorem k_J1_38_min {R : Room} (hR : 1 ≤ R.frames ∧ 40 ≤ R.locals) : xCall RJ1 R 38 false 2 xMin := xcall_min (lw_m 3 96 (by decide +kernel)) (lw_m 3 0 (by decide +kernel)) (lw_m 1 14 (by decide +kernel)) (lw_m 3 1 (by decide +kernel)) hR
theorem k_X1_86_min {R : Room} (hR : 1 ≤ R.frames ∧ 40 ≤ R.locals) : xCall RX1 R 86 false 2 xMin := xcall_min (lw_m 3 164 (by decide +kernel)) (lw_m 3 0 (by decide +kernel)) (lw_m 1 14 (by decide +kernel)) (lw_m 3 1 (by decide +kernel)) hR
theorem k_X0_100_max {R : Room} (hR : 1 ≤ R.frames ∧ 40 ≤ R.locals) : xCall RX0 R 100 false 2 xMax := xcall_max (lw_m 4 60 (by decide +kernel)) (lw_m 2 181 (by decide +kernel)) (lw_m 1 14 (by decide +kernel)) (lw_m 2 182 (by decide +kernel)) hR
theorem k_X5_18_copy {R : Room} (hR : 1 ≤ R.frames ∧ 40 ≤ R.locals) : xCall RX5 R 18 false 5 xCpy := xcall_copy (lw_m 2 165 (by decide +kernel)) (lw_m 2 167 (by decide +kernel)) (lw_m 2 166 (by decide +kernel)) (lw_m 1 13 (by decide +kernel)) hR
theorem k_X3_35_copy {R : Room} (hR : 1 ≤ R.frames ∧ 40 ≤ R.locals) : xCall RX3 R 35 false 5 xCpy := xcall_copy (lw_m 3 18 (by decide +kernel)) (lw_m 2 167 (by decide +kernel)) (lw_m 2 166 (by decide +kernel)) (lw_m 1 13 (by decide +kernel)) hR
theorem k_X2_25_copy {R : Room} (hR : 1 ≤ R.frames ∧ 40 ≤ R.locals) : xCall RX2 R 25 false 5 xCpy := xcall_copy (lw_m 3 153 (by decide +kernel)) (lw_m 2 167 (by decide +kernel)) (lw_m 2 166 (by decide +kernel)) (lw_m 1 13 (by decide +kernel)) hR
theorem k_X9_342_copy {R : Room} (hR : 1 ≤ R.frames ∧ 40 ≤ R.locals) : xCall RX9 R 342 false 5 xCpy := xcall_copy (lw_m 3 174 (by decide +kernel)) (lw_m 2 167 (by decide +kernel)) (lw_m 2 166 (by decide +kernel)) (lw_m 1 13 (by decide +kernel)) hR
theorem k_X4_48_copy {R : Room} (hR : 1 ≤ R.frames ∧ 40 ≤ R.locals) : xCall RX4 R 48 false 5 xCpy := xcall_copy (lw_m 3 213 (by decide +kernel)) (lw_m 2 167 (by decide +kernel)) (lw_m 2 166 (by decide +kernel)) (lw_m 1 13 (by decide +kernel)) hR
theorem k_X6_29_copy {R : Room} (hR : 1 ≤ R.frames ∧ 40 ≤ R.locals) : xCall RX6 R 29 false 5 xCpy := xcall_copy (lw_m 4 192 (by decide +kernel)) (lw_m 2 167 (by decide +kernel)) (lw_m 2 166 (by decide +kernel)) (lw_m 1 13 (by decide +kernel)) hR
theorem k_X1_98_copy {R : Room} (hR : 1 ≤ R.frames ∧ 40 ≤ R.locals) : xCall RX1 R 98 false 5 xCpy := xcall_copy (lw_m 4 201 (by decide +kernel)) (lw_m 2 167 (by decide +kernel)) (lw_m 2 166 (by decide +kernel)) (lw_m 1 13 (by decide +kernel)) hR
