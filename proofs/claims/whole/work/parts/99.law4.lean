def R_law : String := "RingChoirLaw"
def lw_P (b : Addr) (xs : List Int32) (args : Array Value) (s : State) : Prop := args = #[.ref b] ∧ s.IntsAt b xs ∧ xs.length ≤ 384 ∧ (Jvm.Cond.and given_1 narrow_1).before args s = true
def lw_Q (_ : Array Value) (s : State) (o : Outcome) (t : State) : Prop := o = .returned (some (.int 1)) ∧ Framed s o t [] 600000 7302250
def lw_Z (below : List Frame) (a : Array Value) (s : State) : State → Prop := fun t => ∃ o, t.status = .running ∧ Ended t below o ∧ lw_Q a s o t
/-- the law's own end, with 1 on the stack, nothing written that was there before, its room as the claim has it -/
theorem lw_ret {p : Program} {l : Launch} {e : Env} {s : State} {m : MethodId} {below : List Frame} {meth : Method} {c : Code} {b : Nat} (hx : p.tables.exec = Jvm.exec) (hb : c.code = code) (hr : meth.sig.returnType = ret) (hlocks : meth.locks = false) {pc : Nat} {H : Heap} {ls : Array Slot} (hdg : decode code pc = .ok (.ireturn, 1)) : W p l e room_1 s m #[Value.ref b] below meth c H [] 600000 7302250 (lw_Z below #[Value.ref b] s) (F0 m pc ls [.int 1]) := by
  intro T hT X
  obtain ⟨fs, hret, hrun, hended, hW, hframe⟩ := X.leave (v := some (.int 1)) (hlocks := hlocks) (fun h => by rw [hr] at h; cases h)
  have hmeth' : T.vm.method? m = some meth := X.method'
  refine ⟨T.setFrames fs, ?_, .returned (some (.int 1)), hrun, hended, rfl, ⟨_, rfl⟩, hW, hframe⟩
  jvm_step X.here [X.here.top, hx, hb, hdg, hmeth', hr, ret, narrow_b1]
  (try refine ⟨rfl, ?_⟩); (try refine ⟨rfl, ?_⟩)
  first | (intro acts; rw [hret _ acts rfl rfl rfl]) | rw [hret _ _ rfl rfl rfl]
  exact Steps.refl _
/-- what holds at the law's entry: the machine, the code, the tables' words (any of lw_tbl by 'hts w (by decide +kernel)'), the script of L ints xs at the cell b, what the Statement gives of the start (any of its parts by flat_of_before) -/
def lw_At (p : Program) (s : State) (m : MethodId) (meth : Method) (c : Code) (b L : Nat) (xs : Nat → Int32) : Prop :=
  p.tables.exec = Jvm.exec ∧ c.code = code ∧ meth.sig.returnType = ret ∧ c.maxLocals = 4 ∧ s.vm.findClass R_law = some m.cls ∧ (∀ w ∈ lw_tbl, w.before #[Value.ref b] s = true) ∧ va_X b L xs s s.heap ∧ b < s.heap.size ∧ meth.locks = false ∧ (Jvm.Cond.and given_1 narrow_1).before #[Value.ref b] s = true
theorem law_ctx {p : Program} {s : State} {m : MethodId} {meth : Method} {c : Code} {b L : Nat} {xs : Nat → Int32} (C0 : lw_At p s m meth c b L xs) : ∃ (D : va_G) (t2 : XY), t2.1 2 = b ∧ gCtx p s m #[Value.ref b] c code 4 RL D t2 L xs (fun q => s.heap.size ≤ q) := by
  obtain ⟨hx, hb, hr, hml, hown, hts, hX, hbl, hlocks, hgv⟩ := C0
  have htg : ∀ w ∈ lw_g, w.before #[Value.ref b] s = true := fun w h => hts w (List.mem_filter.mp h).1
  have hA : ∀ a : Nat, a < s.heap.size → ¬ (fun q : Nat => s.heap.size ≤ q) a := fun a h => Nat.not_le.mpr h
  have hs := flat_of_before _ hgv
  obtain ⟨c0, i0, k0⟩ := u_known (C := RX0) (T := TX0) (N := 9) (n := 9) htg in_X0 (htg (.instantiable RX0 9) (lw_m 1 207 (by decide +kernel)))
  obtain ⟨c1, i1, k1⟩ := u_known (C := RX1) (T := TX1) (N := 17) (n := 17) htg in_X1 (htg (.instantiable RX1 17) (lw_m 1 29 (by decide +kernel)))
  obtain ⟨c2, i2, k2⟩ := u_known (C := RX2) (T := TX2) (N := 4) (n := 4) htg in_X2 (htg (.instantiable RX2 4) (lw_m 1 35 (by decide +kernel)))
  obtain ⟨c3, i3, k3⟩ := u_known (C := RX3) (T := TX3) (N := 5) (n := 5) htg in_X3 (htg (.instantiable RX3 5) (lw_m 2 45 (by decide +kernel)))
  obtain ⟨c4, i4, k4⟩ := u_known (C := RX4) (T := TX4) (N := 10) (n := 10) htg in_X4 (htg (.instantiable RX4 10) (lw_m 1 166 (by decide +kernel)))
  obtain ⟨c5, i5, k5⟩ := u_known (C := RX5) (T := TX5) (N := 2) (n := 2) htg in_X5 (htg (.instantiable RX5 2) (lw_m 1 152 (by decide +kernel)))
  obtain ⟨c6, i6, k6⟩ := u_known (C := RX6) (T := TX6) (N := 3) (n := 3) htg in_X6 (htg (.instantiable RX6 3) (lw_m 2 4 (by decide +kernel)))
  obtain ⟨c7, i7, k7⟩ := u_known (C := RX7) (T := TX7) (N := 1) (n := 1) htg in_X7 (htg (.instantiable RX7 1) (lw_m 1 140 (by decide +kernel)))
  obtain ⟨c8, i8, k8⟩ := u_known (C := RX8) (T := TX8) (N := 5) (n := 5) htg in_X8 (htg (.instantiable RX8 5) (lw_m 2 21 (by decide +kernel)))
  obtain ⟨c9, i9, k9⟩ := u_known (C := RX9) (T := TX9) (N := 13) (n := 13) htg in_X9 (htg (.instantiable RX9 13) (lw_m 1 21 (by decide +kernel)))
  obtain ⟨c10, i10, k10⟩ := u_known (C := RX10) (T := TX10) (N := 30) (n := 30) htg in_X10 (htg (.instantiable RX10 30) (lw_m 4 228 (by decide +kernel)))
  obtain ⟨cI, kI, e0, a1, a2, a3⟩ := Cond.arrayClass_spec (htg _ w_aI)
  obtain ⟨cB, kB, e1, b1, b2, b3⟩ := Cond.arrayClass_spec (htg _ w_aB)
  obtain ⟨cE, cA, kA, d1, d2, d3, d4, d5⟩ := arrayOverA_spec (hts (.arrayOver (.array .int)) (lw_mt 1 146 (by decide +kernel)))
  have mK : ∀ j, j < 7 → (Cond.eq (.elem (.static "RingChoir" "KIND_ABOVE" "[I") (.int (Int32.ofNat j))) (.int (xka.getD j 0))).before #[Value.ref b] s = true := by
    intro j hj
    match j, hj with
    | 0, _ => exact hs _ (by decide +kernel)
    | 1, _ => exact hs _ (by decide +kernel)
    | 2, _ => exact hs _ (by decide +kernel)
    | 3, _ => exact hs _ (by decide +kernel)
    | 4, _ => exact hs _ (by decide +kernel)
    | 5, _ => exact hs _ (by decide +kernel)
    | 6, _ => exact hs _ (by decide +kernel)
    | j + 7, hj => omega
  obtain ⟨tK, eK, TK⟩ := va_Tof (tm := .static "RingChoir" "KIND_ABOVE" "[I") (ty := .int) (N := 7) (f := fun j => .int (xka.getD j 0)) (A := fun q : Nat => s.heap.size ≤ q) (by decide) (hs _ (by decide +kernel)) (va_eqt (z := Int32.ofNat 7) (hs _ (by decide +kernel))) (fun j hj => va_eqt (mK j hj)) hA
  have mB : ∀ j, j < 28 → (Cond.eq (.elem (.static "RingChoir$Voices" "BODIES" "[I") (.int (Int32.ofNat j))) (.int (xbo.getD j 0))).before #[Value.ref b] s = true := by
    intro j hj
    match j, hj with
    | 0, _ => exact hs _ (by decide +kernel)
    | 1, _ => exact hs _ (by decide +kernel)
    | 2, _ => exact hs _ (by decide +kernel)
    | 3, _ => exact hs _ (by decide +kernel)
    | 4, _ => exact hs _ (by decide +kernel)
    | 5, _ => exact hs _ (by decide +kernel)
    | 6, _ => exact hs _ (by decide +kernel)
    | 7, _ => exact hs _ (by decide +kernel)
    | 8, _ => exact hs _ (by decide +kernel)
    | 9, _ => exact hs _ (by decide +kernel)
    | 10, _ => exact hs _ (by decide +kernel)
    | 11, _ => exact hs _ (by decide +kernel)
    | 12, _ => exact hs _ (by decide +kernel)
    | 13, _ => exact hs _ (by decide +kernel)
    | 14, _ => exact hs _ (by decide +kernel)
    | 15, _ => exact hs _ (by decide +kernel)
    | 16, _ => exact hs _ (by decide +kernel)
    | 17, _ => exact hs _ (by decide +kernel)
    | 18, _ => exact hs _ (by decide +kernel)
    | 19, _ => exact hs _ (by decide +kernel)
    | 20, _ => exact hs _ (by decide +kernel)
    | 21, _ => exact hs _ (by decide +kernel)
    | 22, _ => exact hs _ (by decide +kernel)
    | 23, _ => exact hs _ (by decide +kernel)
    | 24, _ => exact hs _ (by decide +kernel)
    | 25, _ => exact hs _ (by decide +kernel)
    | 26, _ => exact hs _ (by decide +kernel)
    | 27, _ => exact hs _ (by decide +kernel)
    | j + 28, hj => omega
  obtain ⟨tB, eB, TB⟩ := va_Tof (tm := .static "RingChoir$Voices" "BODIES" "[I") (ty := .int) (N := 28) (f := fun j => .int (xbo.getD j 0)) (A := fun q : Nat => s.heap.size ≤ q) (by decide) (hs _ (by decide +kernel)) (va_eqt (z := Int32.ofNat 28) (hs _ (by decide +kernel))) (fun j hj => va_eqt (mB j hj)) hA
  have mV : ∀ j, j < 4 → (Cond.eq (.elem (.field (.string "RingChoir$Reader" 29) "java/lang/String" "value" "[B") (.int (Int32.ofNat j))) (.int (xb5.getD j 0))).before #[Value.ref b] s = true := by
    intro j hj
    match j, hj with
    | 0, _ => exact hs _ (by decide +kernel)
    | 1, _ => exact hs _ (by decide +kernel)
    | 2, _ => exact hs _ (by decide +kernel)
    | 3, _ => exact hs _ (by decide +kernel)
    | j + 4, hj => omega
  obtain ⟨tV, eV, TV⟩ := va_Tof (tm := .field (.string "RingChoir$Reader" 29) "java/lang/String" "value" "[B") (ty := .byte) (N := 4) (f := fun j => .int (xb5.getD j 0)) (A := fun q : Nat => s.heap.size ≤ q) (by decide) (hs _ (by decide +kernel)) (va_eqt (z := Int32.ofNat 4) (hs _ (by decide +kernel))) (fun j hj => va_eqt (mV j hj)) hA
  have mU : ∀ j, j < 2 → (Cond.eq (.elem (.field (.string "RingChoir$Reader" 41) "java/lang/String" "value" "[B") (.int (Int32.ofNat j))) (.int (xb6.getD j 0))).before #[Value.ref b] s = true := by
    intro j hj
    match j, hj with
    | 0, _ => exact hs _ (by decide +kernel)
    | 1, _ => exact hs _ (by decide +kernel)
    | j + 2, hj => omega
  obtain ⟨tU, eU, TU⟩ := va_Tof (tm := .field (.string "RingChoir$Reader" 41) "java/lang/String" "value" "[B") (ty := .byte) (N := 2) (f := fun j => .int (xb6.getD j 0)) (A := fun q : Nat => s.heap.size ≤ q) (by decide) (hs _ (by decide +kernel)) (va_eqt (z := Int32.ofNat 2) (hs _ (by decide +kernel))) (fun j hj => va_eqt (mU j hj)) hA
  have x3 : (Cond.exactly (.string "RingChoir$Reader" 29) "java/lang/String").before #[Value.ref b] s = true := hs _ (by decide +kernel)
  obtain ⟨p3, -, -, -, q3, -⟩ := Cond.exactly_spec (args := #[Value.ref b]) (first := s) (o := none) (s := s) (idx := []) (t := .string "RingChoir$Reader" 29) (cls := "java/lang/String") x3
  have x4 : (Cond.exactly (.string "RingChoir$Reader" 41) "java/lang/String").before #[Value.ref b] s = true := hs _ (by decide +kernel)
  obtain ⟨p4, -, -, -, q4, -⟩ := Cond.exactly_spec (args := #[Value.ref b]) (first := s) (o := none) (s := s) (idx := []) (t := .string "RingChoir$Reader" 41) (cls := "java/lang/String") x4
  refine ⟨(fun k => [c0, c1, c2, c3, c4, c5, c6, c7, c8, c9, c10].getD k c0, fun k => [i0, i1, i2, i3, i4, i5, i6, i7, i8, i9, i10].getD k i0), (fun k => [tK, tB, b, p3, p4, tV, tU].getD k 0, fun k => [cI, cB, cA].getD k cI), rfl, hx, hb, hml, hown, htg, ⟨fun k q hq => ?_, fun k q hq => ?_⟩, fun _ h => h, ⟨fun k hk => ?_, fun k hk hk2 => ?_, fun q hq => ?_, fun q hq => ?_, fun k hk hk2 => ?_, fun q hq => ?_, ?_⟩, ⟨cE, cA, kA, d1, d3, d4, d5⟩, fun q hq => ?_⟩
  · match k, hq with
    | 0, hq => cases hq; exact k0
    | 1, hq => cases hq; exact k1
    | 2, hq => cases hq; exact k2
    | 3, hq => cases hq; exact k3
    | 4, hq => cases hq; exact k4
    | 5, hq => cases hq; exact k5
    | 6, hq => cases hq; exact k6
    | 7, hq => cases hq; exact k7
    | 8, hq => cases hq; exact k8
    | 9, hq => cases hq; exact k9
    | 10, hq => cases hq; exact k10
    | k + 11, hq => simp [vwCl] at hq
  · match k, hq with
    | 0, hq => cases hq; exact ⟨fun n z => ⟨fun k h => (by cases h), kI, a2, e0, a3⟩, a1⟩
    | 1, hq => cases hq; exact ⟨fun n z => ⟨fun k h => (by cases h), kB, b2, e1, b3⟩, b1⟩
    | 2, hq => cases hq; exact ⟨fun n z => ⟨fun k h => (by cases h), kA, d3, cE, d4⟩, d5⟩
    | k + 3, hq => simp at hq
  · match k, hk with
    | 0, _ => exact TK
    | 1, _ => exact TB
    | 2, _ =>
      obtain ⟨scr, x1, x2, x3, x4, x5⟩ := hX
      exact ⟨scr, x1, x2, x3, (by rw [x4]; exact Nat.le_refl _), (by rw [x4]; rfl), x5, hA b hbl⟩
    | k + 3, hk => omega
  · match k, hk, hk2 with
    | 5, _, _ => exact TV
    | 6, _, _ => exact TU
    | 0, hk, _ => omega
    | 1, hk, _ => omega
    | 2, hk, _ => omega
    | 3, hk, _ => omega
    | 4, hk, _ => omega
    | k + 7, _, hk2 => omega
  · simp only [xsg, List.mem_cons, List.not_mem_nil, or_false] at hq
    rcases hq with rfl | rfl | rfl
    · exact va_Zref (hts _ (lw_mt 2 210 (by decide +kernel))) (hts _ (lw_mt 1 1 (by decide +kernel))) eK hA
    · exact va_Zref (hts _ (lw_mt 4 150 (by decide +kernel))) (hts _ (lw_mt 1 9 (by decide +kernel))) eB hA
    · exact va_Zof (hts _ (lw_mt 3 80 (by decide +kernel))) (hts _ (lw_mt 1 15 (by decide +kernel))) (va_eqt (hs _ (by decide +kernel))) hA
  · simp only [xsf, List.mem_cons, List.not_mem_nil, or_false] at hq
    rcases hq with rfl | rfl | rfl | rfl
    · exact vk_OFof q3 (va_eqt (hs _ (by decide +kernel))) hA
    · exact vk_OFof q3 eV hA
    · exact vk_OFof q4 (va_eqt (hs _ (by decide +kernel))) hA
    · exact vk_OFof q4 eU hA
  · match k, hk, hk2 with
    | 3, _, _ => exact va_Oof x3 q3 hA
    | 4, _, _ => exact va_Oof x4 q4 hA
    | 0, hk, _ => omega
    | 1, hk, _ => omega
    | 2, hk, _ => omega
    | k + 5, _, hk2 => omega
  · simp only [xsr, List.mem_cons, List.not_mem_nil, or_false] at hq
    rcases hq with rfl | rfl
    · exact vk_R.of (hts _ (lw_mt 2 52 (by decide +kernel))) q3
    · exact vk_R.of (hts _ (lw_mt 3 19 (by decide +kernel))) q4
  · exact va_Nw.of rfl (hts _ (lw_mt 4 148 (by decide +kernel)))
  · simp only [gnl, List.mem_cons, List.not_mem_nil, or_false] at hq
    rcases hq with rfl | rfl | rfl | rfl | rfl | rfl | rfl | rfl | rfl | rfl
    · exact va_Nw.of rfl (hts _ (lw_mt 1 30 (by decide +kernel)))
    · exact va_Nw.of rfl (hts _ (lw_mt 1 36 (by decide +kernel)))
    · exact va_Nw.of rfl (hts _ (lw_mt 1 141 (by decide +kernel)))
    · exact va_Nw.of rfl (hts _ (lw_mt 1 153 (by decide +kernel)))
    · exact va_Nw.of rfl (hts _ (lw_mt 1 167 (by decide +kernel)))
    · exact va_Nw.of rfl (hts _ (lw_mt 1 208 (by decide +kernel)))
    · exact va_Nw.of rfl (hts _ (lw_mt 2 5 (by decide +kernel)))
    · exact va_Nw.of rfl (hts _ (lw_mt 2 22 (by decide +kernel)))
    · exact va_Nw.of rfl (hts _ (lw_mt 2 46 (by decide +kernel)))
    · exact va_Nw.of rfl (hts _ (lw_mt 2 51 (by decide +kernel)))
set_option maxRecDepth 20000 in
theorem L_one {L : Nat} {xs : Nat → Int32} {Qp : Option Value → XW → Prop} {K : Nat → XL → List Value → XW → Prop} {w : XW} (hK : K 18 (LLS (Int32.ofInt 0)) [] w) : xw 4 (some .boolean) L xs tL (fun _ => none) nL9 g0 cL Qp cuL K 80 15 [(0, .retAddr 2), (1, .ref 0)] [.ref 83] w := hK
theorem fn_ok {own : String} : xFok own (fun _ => none) := fun n ci f ty fin h => (by cases h)
set_option maxRecDepth 20000 in
set_option maxHeartbeats 4000000 in
theorem law_go {p : Program} {l : Launch} {e : Env} {s : State} {m : MethodId} {below : List Frame} {meth : Method} {c : Code} {b L : Nat} {xs : Nat → Int32} {D : va_G} {t2 : XY} {A : Nat → Prop} (hL : L ≤ 384) (X : gCtx p s m #[Value.ref b] c code 4 RL D t2 L xs A)
    (hret : ∀ z pc ls w, decode code pc = .ok (.ireturn, 1) → xOK p l e room_1 s m #[Value.ref b] below meth c 4 D z A 102 26317 (lw_Z below #[Value.ref b] s) pc ls [.int 1] w) : gOK p l e room_1 s m #[Value.ref b] below meth c 4 D t2 A (lw_Z below #[Value.ref b] s) none 0 0 0 [(0, .retAddr 2)] [] [] := by
  refine g_new X (i1 := 7) (i2 := 9) mX9_init rfl tyX9 tyX9_ok fsX9_ok in_X9 (lw_m 1 20 (by decide +kernel)) (lw_m 1 21 (by decide +kernel)) (lw_m 1 1 (by decide +kernel)) (Or.inl (lw_m 1 22 (by decide +kernel))) (lw_m 1 23 (by decide +kernel)) (lw_m 1 24 (by decide +kernel)) rfl (by decide +kernel) (Nat.zero_lt_succ _) ⟨Nat.le_of_ble_eq_true rfl, Nat.le_of_ble_eq_true rfl⟩ (Nat.le_of_ble_eq_true rfl) (Nat.le_of_ble_eq_true rfl) (Nat.le_of_ble_eq_true rfl) (show decode code 0 = .ok (.new 7, 3) from by decide +kernel) (show decode code 3 = .ok (.dup, 1) from by decide +kernel) (show decode code 4 = .ok (.invokespecial 9, 3) from by decide +kernel) (k0 := 0) (cs2 := 83) (sl2 := 12656) (W1 := CW false false false iA iF) (w9 := CW false false false iA iF) rfl rfl rfl (xse0s _) rfl ?_
  have kk : gOK p l e room_1 s m #[Value.ref b] below meth c 4 D t2 A (lw_Z below #[Value.ref b] s) none 83 12656 8 [(0, .retAddr 2), (1, .ref 0)] [] (CW false false false iA iF) := by
    refine g_new X (i1 := 10) (i2 := 12) mX10_init rfl tyX10 tyX10_ok fsX10_ok in_X10 (lw_m 4 227 (by decide +kernel)) (lw_m 4 228 (by decide +kernel)) (lw_m 1 11 (by decide +kernel)) (Or.inl (lw_m 4 229 (by decide +kernel))) (lw_m 4 230 (by decide +kernel)) (lw_m 4 231 (by decide +kernel)) rfl (by decide +kernel) (Nat.zero_lt_succ _) ⟨Nat.le_of_ble_eq_true rfl, Nat.le_of_ble_eq_true rfl⟩ (Nat.le_of_ble_eq_true rfl) (Nat.le_of_ble_eq_true rfl) (Nat.le_of_ble_eq_true rfl) (show decode code 8 = .ok (.new 10, 3) from by decide +kernel) (show decode code 11 = .ok (.dup, 1) from by decide +kernel) (show decode code 12 = .ok (.invokespecial 12, 3) from by decide +kernel) (k0 := 83) (cs2 := 102) (sl2 := 26317) (W1 := (LM jA jF).map (xse 83)) (w9 := LWD false false false iA iF jA jF) rfl rfl rfl rfl rfl ?_
    intro hB z1 hz
    have hri : ∀ pc ls x w, decode code pc = .ok (.ireturn, 1) → xret (some .boolean) x ((fun r _ => r = some (.int 1) : Option Value → XW → Prop) (some (.int x)) w) → xOK p l e room_1 s m #[Value.ref b] below meth c 4 D (z1, t2) A 102 26317 (lw_Z below #[Value.ref b] s) pc ls [.int x] w := fun pc ls x w hd h => by
      obtain ⟨-, -, -, h9⟩ := xret_s h
      have h9 : some (Value.int x) = some (.int 1) := h9
      cases h9
      exact hret (z1, t2) pc ls w hd
    have hrl : ∀ pc ls x w, decode code pc = .ok (.lreturn, 1) → (some .boolean : Option FieldType) = some .long → (fun r _ => r = some (.int 1) : Option Value → XW → Prop) (some (.long x)) w → xOK p l e room_1 s m #[Value.ref b] below meth c 4 D (z1, t2) A 102 26317 (lw_Z below #[Value.ref b] s) pc ls [.long x] w := fun pc ls x w _ h => (by cases h)
    have hrv : ∀ pc ls w, decode code pc = .ok (.return_, 1) → (some .boolean : Option FieldType) = none → (fun r _ => r = some (.int 1) : Option Value → XW → Prop) none w → xOK p l e room_1 s m #[Value.ref b] below meth c 4 D (z1, t2) A 102 26317 (lw_Z below #[Value.ref b] s) pc ls [] w := fun pc ls w _ h => (by cases h)
    have X9 := X.x (R := room_1) (cs := 102) (sl := 26317) (Nat.le_of_ble_eq_true rfl) (Nat.le_of_ble_eq_true rfl) z1
    refine xw_ok (rt := some .boolean) (Qp := fun r _ => r = some (.int 1)) X9 tL_ok fn_ok nL9_ok g0_ok cL_ok hri hrl hrv (K := fun pc ls st w => ∃ n, LLP L n pc ls st w) (cut := cuL) (fun pc m9 ls st w hc ⟨n, h2⟩ => xw_loop (rt := some .boolean) (Qp := fun r _ => r = some (.int 1)) X9 tL_ok fn_ok nL9_ok g0_ok cL_ok hri hrl hrv 80 (L_body hL) n pc m9 ls st w hc h2) 80 15 _ _ _ ?_
    exact L_one ⟨3 * (L - 0) + 2, 0, 2, rfl, rfl, rfl, Nat.zero_le _, Or.inl ⟨rfl, rfl, LI0⟩⟩
  intro hB z1 hz
  refine xstep_ok (rt := none) (Qp := fun _ _ => False) (k := fun pc ls st w => xOK p l e room_1 s m #[Value.ref b] below meth c 4 D (z1, t2) A 83 12656 (lw_Z below #[Value.ref b] s) pc ls st w) (X.x (R := room_1) (cs := 83) (sl := 12656) (Nat.le_of_ble_eq_true rfl) (Nat.le_of_ble_eq_true rfl) z1) tL_ok fn_ok nL9_ok g0_ok cL_ok (fun pc ls x w _ h => (xret_s h).elim fun ty h => h.2.2.elim) (fun pc ls x w _ _ h => h.elim) (fun pc ls w _ _ h => h.elim) (fun pc ls st w h => h) 7 _ _ _ ?_
  exact kk ⟨hB.1, fun v h => (by cases h), fun q h => (by
    simp only [List.mem_cons, List.not_mem_nil, or_false] at h
    rcases h with rfl | rfl
    · trivial
    · show 0 < 83
      decide), Or.inl rfl⟩ z1 hz
theorem whole_start {p : Program} {e : Env} {s : State} {m : MethodId} {below : List Frame} {meth : Method} {c : Code} (l : Launch) (hflags : l.flags = flags0) {b L : Nat} {xs : Nat → Int32} (hL : L ≤ 384) (C0 : lw_At p s m meth c b L xs) : W p l e room_1 s m #[Value.ref b] below meth c s.heap [] 0 0 (lw_Z below #[Value.ref b] s) (entryFrame m ([Value.ref b] : List Value).toArray 4) := by
  obtain ⟨D, t2, hb2, X⟩ := law_ctx C0
  obtain ⟨hx, hb, hr, hml, hown, hts, hX, hbl, hlocks, hgv⟩ := C0
  have hl := lv_entry ([.ref b]) (n := 4) (Nat.le_of_ble_eq_true rfl)
  rw [lg_entry_eq]
  have h9 := law_go (l := l) (e := e) (below := below) (meth := meth) hL X (fun z pc ls w hd H locs la hP hD hS hv => va_forget hS.2.2 (W.widen (k := 600000) (n := 7302250) (Nat.le_of_ble_eq_true rfl) (Nat.le_of_ble_eq_true rfl) (lw_ret hx hb hr hlocks hd)))
  subst hb2
  exact h9 ⟨fun e he => (by cases he), fun v h => (by cases h), fun q h => (by
    rw [List.mem_singleton.mp h]
    trivial), Or.inl rfl⟩ (fun _ => 0) (fun a h => (by cases h)) s.heap [] _ (fun k q h => (by simp [xq] at h)) ⟨fun i j p q h => (by simp [xq] at h), fun k q h => (by simp [xq] at h)⟩ va_S.rf hl
set_option maxHeartbeats 4000000 in
theorem lw_walk (l : Launch) (hflags : l.flags = flags0) (b : Addr) (xs : List Int32) : MetFree l x (headSpec (Jvm.Cond.code x code maxLocals ret :: tables_1) room_1) (lw_P b xs) (fun _ _ _ _ _ => True) lw_Q := by
  refine MetFree.of_bodyS (code := code) (maxLocals := maxLocals) (ret := ret) (by decide) ?_ ?_
  · intro args s m h hn
    obtain ⟨meth, c, h1, h2, h3, h4, h5, h6, -, -⟩ := Cond.code_spec hn (atoms_spec (ws := Jvm.Cond.code x code maxLocals ret :: tables_1) h _ List.mem_cons_self)
    exact ⟨meth, c, h1, h2, h3, h4, h5, h6⟩
  · intro p e s m args below meth c s₁ B hml0 hP _
    obtain ⟨rfl, hx, hbd, hgv⟩ := hP
    obtain ⟨scr, harrAt, hlist, hof, hsmall⟩ := hx
    obtain ⟨hcb, hkn, -, -⟩ := State.arrayAt?_spec harrAt
    have hown : s.vm.findClass R_law = some m.cls := findClass_of_methodNamed B.named
    have hts0 : ∀ c ∈ (Jvm.Cond.code x code maxLocals ret :: tables_1), c.before #[Value.ref b] s = true := atoms_spec (ws := Jvm.Cond.code x code maxLocals ret :: tables_1) B.pre
    have hts : ∀ w ∈ lw_tbl, w.before #[Value.ref b] s = true := k2_hts_sels lw_privs (fun w hw => hts0 w (List.mem_cons_of_mem _ hw)) lw_privs_ok
    have hml : c.maxLocals = 4 := B.maxLocals_eq (hts0 _ List.mem_cons_self)
    have X₀ : Stand p l e room_1 s m #[Value.ref b] below meth c s₁ [] 0 0 := Stand.of_body B
    have hh0 : s₁.heap = s.heap := by rw [B.state]; rfl
    have hsz : scr.slots.size = xs.length := by rw [← Array.length_toList, hlist, List.length_map]
    have hval : ∀ j : Nat, j < xs.length → scr.slots[j]? = some (.int (xs.getD j 0)) := fun j hj => by
      rw [← Array.getElem?_toList, hlist]
      simp [hj]
    have hbl : b < s.heap.size := (Array.getElem?_eq_some_iff.mp hcb).1
    have hX : va_X b xs.length (fun j => xs.getD j 0) s s.heap := ⟨scr, hcb, hof, hkn, hsz, hval⟩
    have K : W p l e room_1 s m #[Value.ref b] below meth c s₁.heap [] 0 0 (lw_Z below #[Value.ref b] s) (entryFrame m ([Value.ref b] : List Value).toArray 4) := by
      rw [hh0]
      exact whole_start l hflags hbd ⟨B.exec, B.bytes, B.returns, hml, hown, hts, hX, hbl, B.notSynchronized, hgv⟩
    obtain ⟨t, a1, o, b1, b2, b3⟩ := K s₁ rfl X₀
    exact ⟨t, o, a1, b1, b2, b3⟩
theorem lw_pre_spec {args : Array Value} {s : State} (h : (Jvm.Cond.and given_1 narrow_1).before args s = true) (hr : rest_1_c.before args s = true) : ∃ (b : Addr) (xs : List Int32), lw_P b xs args s := by
  have hs := flat_of_before _ h
  have hq := flat_of_before _ hr
  have hc : (Cond.count 1).before args s = true := hs _ (by decide +kernel)
  have harr : (Cond.arrayOf (.arg 0) .int).before args s = true := hs _ (by decide +kernel)
  have hle : (Cond.le (.length (.arg 0)) (.int 384)).before args s = true := hs _ (by decide +kernel)
  have hlen : (Cond.isInt (.length (.arg 0))).before args s = true := hq _ (by decide +kernel)
  have hall : (Cond.all (.arg 0) (.isInt (.elem (.arg 0) (.index 0)))).before args s = true := hq _ (by decide +kernel)
  obtain ⟨b, xs, hb, hx⟩ := State.ints_of_pre rfl harr hlen hall
  have hsm : xs.length < 2 ^ 31 := hx.choose_spec.2.2.2
  have hev : (Term.length (.arg 0)).eval args s none [] s = some (.int xs.length.toInt32) := hx.length_eval hb
  have hv := Cond.le_ints hev (show (Term.int 384).eval args s none [] s = some (.int 384) from rfl)
  have hd : xs.length.toInt32 ≤ 384 := by
    simpa [Cond.before, Cond.holds, hv] using hle
  have hN : xs.length ≤ 384 := (Int32.ofNat_le_ofNat hsm (by decide)).mp (show Int32.ofNat xs.length ≤ Int32.ofNat 384 from hd)
  exact ⟨b, xs, Cond.one_arg hc (show args[0]? = some (.ref b) from hb), hx, hN, h⟩
theorem lw_comes (l : Launch) (hflags : l.flags = flags0) : Comes l x (Jvm.Cond.code x code maxLocals ret :: tables_1) room_1 (fun tb e args s => Calls_1 tb e args s ∧ rest_1 tb e args s ∧ Pre_1 tb e args s)
    (fun _ _ args s o t => lw_Q args s o t) := by
  intro p e ha hc hk s m args below hf hfit hheap happ hpre
  obtain ⟨b, xs, hP⟩ := lw_pre_spec hpre.2.2 hpre.2.1
  obtain ⟨k, o, h1, h2, h3, hQ⟩ := lw_walk l hflags b xs p e ha hc hk s m args below hf ((Spec.applies_iff_loose hf).mp happ).1 hP trivial
  exact ⟨k, o, h1, h2, h3, hQ⟩
theorem lw_frame {s t : State} {o : Outcome} {args : Array Value} (h : Framed s o t [] 600000 7302250) :
    Framed s o t (fieldLocs frame_1_writes args s ++ arrayLocs frame_1_arrays args s ++ staticLocs frame_1_statics s) 600000 7302250 := h
theorem lw_limb (L : Cond) (hL : ∀ (args : Array Value) (s t : State), L.after args s (.returned (some (.int 1))) t = true) :
    ArmFor flags0 classFile x code maxLocals ret World_1 tables_1 room_1 Calls_1 rest_1 Pre_1
      (fun tb e a s o t => postC L tb e a s o t ∧ Framed s o t (fieldLocs frame_1_writes a s ++ arrayLocs frame_1_arrays a s ++ staticLocs frame_1_statics s) 600000 7302250) := by
  intro l hflags _ _ p e ha hc hk s m args below hf hfit hheap happ hpre
  obtain ⟨k, o, h1, h2, h3, rfl, hF⟩ := lw_comes l hflags p e ha hc hk s m args below hf hfit hheap happ hpre
  exact ⟨k, _, h1, h2, h3, hL args s _, lw_frame hF⟩
theorem i_vc : Claimed_1_1 ∧ Claimed_1_2 := ⟨lw_limb limb_1_1 (fun args s t => by simp [limb_1_1, Cond.after, Cond.holds, Cond.value]), lw_limb limb_1_2 (fun args s t => Cond.after_iff.mpr (by
  first | (rw [show limb_1_2 = Cond.eq .result (.int 1) from rfl, Cond.eq_ints (x := 1) (y := 1) rfl rfl]; simp; done) | (simp [limb_1_2, Cond.value, Term.eval]; done)))⟩
