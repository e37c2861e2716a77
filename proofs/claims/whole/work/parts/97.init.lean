/-! ===== the constructors ===== -/
theorem w_oi : Cond.instanceMethod objectInit ∈ lw_g := lw_m 1 26 (by decide +kernel)
theorem w_oc : Cond.code objectInit ⟨#[0xb1]⟩ 1 none ∈ lw_g := lw_m 1 27 (by decide +kernel)
theorem w_aI : Cond.arrayClass .int ∈ lw_g := lw_m 1 53 (by decide +kernel)
theorem w_aB : Cond.arrayClass .byte ∈ lw_g := lw_m 1 54 (by decide +kernel)
def IX2 : XW := [.inr (2, [.ref 1, .ref 2, .ref 3, .int (Int32.ofInt 0)]), .inl (0, 50, .inl (fun _ => 0)), .inl (0, 50, .inl (fun _ => 0)), .inl (0, 4, .inl (fun _ => 0))]
theorem fsX2_ok : ∀ j, j < 4 → defaultValue (tyX2 j) = vp_V [.null, .null, .null, .int 0] j := by decide +kernel
theorem mX2_init : gCT 1 3 104 yX2_init cX2_init 2 [.null, .null, .null, .int 0] IX2 := by
  refine gmet (by decide +kernel) rfl (fun z => rfl) (fun v hv => ?_) (fun {p l e s m args below meth c D t2 L xs A Q h0} K hi hret => ?_)
  · simp only [List.mem_cons, List.not_mem_nil, or_false] at hv
    rcases hv with rfl | rfl | rfl | rfl <;> trivial
  refine g_aload0 K (show decode cX2_init 0 = .ok (.aload_n 0, 1) from by decide +kernel) rfl rfl ?_
  refine g_obj K (lw_m 1 39 (by decide +kernel)) w_oi w_oc ⟨Nat.le_of_ble_eq_true rfl, Nat.le_of_ble_eq_true rfl⟩ (show decode cX2_init 1 = .ok (.invokespecial 3, 3) from by decide +kernel) ?_
  refine g_aload0 K (show decode cX2_init 4 = .ok (.aload_n 0, 1) from by decide +kernel) rfl rfl ?_
  refine g_bipush K (show decode cX2_init 5 = .ok (.bipush 50, 2) from by decide +kernel) ?_
  refine g_newa K (ti := 0) (N := 50) (Or.inl ⟨rfl, rfl⟩) (by decide +kernel) (by decide +kernel) (Nat.le_of_ble_eq_true rfl) (Nat.le_of_ble_eq_true rfl) (Nat.le_of_ble_eq_true rfl) w_aI (show decode cX2_init 7 = .ok (.newarray .int, 2) from by decide +kernel) ?_
  refine g_put K fX2_ok true rfl (fun _ => hi) (fun C T N h => by cases h; rfl) (q := 0) rfl (Nat.le_of_ble_eq_true rfl) trivial (show decode cX2_init 9 = .ok (.putfield 9, 3) from by decide +kernel) ?_
  refine g_aload0 K (show decode cX2_init 12 = .ok (.aload_n 0, 1) from by decide +kernel) rfl rfl ?_
  refine g_bipush K (show decode cX2_init 13 = .ok (.bipush 50, 2) from by decide +kernel) ?_
  refine g_newa K (ti := 0) (N := 50) (Or.inl ⟨rfl, rfl⟩) (by decide +kernel) (by decide +kernel) (Nat.le_of_ble_eq_true rfl) (Nat.le_of_ble_eq_true rfl) (Nat.le_of_ble_eq_true rfl) w_aI (show decode cX2_init 15 = .ok (.newarray .int, 2) from by decide +kernel) ?_
  refine g_put K fX2_ok true rfl (fun _ => hi) (fun C T N h => by cases h; rfl) (q := 0) rfl (Nat.le_of_ble_eq_true rfl) trivial (show decode cX2_init 17 = .ok (.putfield 15, 3) from by decide +kernel) ?_
  refine g_aload0 K (show decode cX2_init 20 = .ok (.aload_n 0, 1) from by decide +kernel) rfl rfl ?_
  refine g_iconst K (show decode cX2_init 21 = .ok (.iconst 4, 1) from by decide +kernel) ?_
  refine g_newa K (ti := 0) (N := 4) (Or.inl ⟨rfl, rfl⟩) (by decide +kernel) (by decide +kernel) (Nat.le_of_ble_eq_true rfl) (Nat.le_of_ble_eq_true rfl) (Nat.le_of_ble_eq_true rfl) w_aI (show decode cX2_init 22 = .ok (.newarray .int, 2) from by decide +kernel) ?_
  refine g_put K fX2_ok true rfl (fun _ => hi) (fun C T N h => by cases h; rfl) (q := 0) rfl (Nat.le_of_ble_eq_true rfl) trivial (show decode cX2_init 24 = .ok (.putfield 18, 3) from by decide +kernel) ?_
  refine g_aload0 K (show decode cX2_init 27 = .ok (.aload_n 0, 1) from by decide +kernel) rfl rfl ?_
  refine g_iconst K (show decode cX2_init 28 = .ok (.iconst 0, 1) from by decide +kernel) ?_
  refine g_put K fX2_ok false rfl (fun h => by cases h) (fun C T N h => by cases h; rfl) (q := 0) rfl (Nat.le_of_ble_eq_true rfl) trivial (show decode cX2_init 29 = .ok (.putfield 21, 3) from by decide +kernel) ?_
  exact fun hB z1 hz => hret 32 _ z1 (show decode cX2_init 32 = .ok (.return_, 1) from by decide +kernel) hB.1 hz
def IX0 : XW := [.inr (0, [.int (Int32.ofInt 0), .int (Int32.ofInt (-1)), .int (Int32.ofInt 0), .int (Int32.ofInt 0), .ref 1, .ref 2, .ref 3, .ref 4, .ref 5]), .inl (0, 3000, .inl (fun _ => 0)), .inl (0, 3000, .inl (fun _ => 0)), .inl (0, 8, .inl (fun _ => 0)), .inl (0, 8, .inl (fun _ => 0)), .inl (0, 96, .inl (fun _ => 0))]
theorem fsX0_ok : ∀ j, j < 9 → defaultValue (tyX0 j) = vp_V [.int 0, .int 0, .int 0, .int 0, .null, .null, .null, .null, .null] j := by decide +kernel
theorem mX0_init : gCT 1 5 6112 yX0_init cX0_init 0 [.int 0, .int 0, .int 0, .int 0, .null, .null, .null, .null, .null] IX0 := by
  refine gmet (by decide +kernel) rfl (fun z => rfl) (fun v hv => ?_) (fun {p l e s m args below meth c D t2 L xs A Q h0} K hi hret => ?_)
  · simp only [List.mem_cons, List.not_mem_nil, or_false] at hv
    rcases hv with rfl | rfl | rfl | rfl | rfl | rfl | rfl | rfl | rfl <;> trivial
  refine g_aload0 K (show decode cX0_init 0 = .ok (.aload_n 0, 1) from by decide +kernel) rfl rfl ?_
  refine g_obj K (lw_m 1 211 (by decide +kernel)) w_oi w_oc ⟨Nat.le_of_ble_eq_true rfl, Nat.le_of_ble_eq_true rfl⟩ (show decode cX0_init 1 = .ok (.invokespecial 3, 3) from by decide +kernel) ?_
  refine g_aload0 K (show decode cX0_init 4 = .ok (.aload_n 0, 1) from by decide +kernel) rfl rfl ?_
  refine g_iconst K (show decode cX0_init 5 = .ok (.iconst 0, 1) from by decide +kernel) ?_
  refine g_put K fX0_ok false rfl (fun h => by cases h) (fun C T N h => by cases h; rfl) (q := 0) rfl (Nat.le_of_ble_eq_true rfl) trivial (show decode cX0_init 6 = .ok (.putfield 9, 3) from by decide +kernel) ?_
  refine g_aload0 K (show decode cX0_init 9 = .ok (.aload_n 0, 1) from by decide +kernel) rfl rfl ?_
  refine g_iconst K (show decode cX0_init 10 = .ok (.iconst (-1), 1) from by decide +kernel) ?_
  refine g_put K fX0_ok false rfl (fun h => by cases h) (fun C T N h => by cases h; rfl) (q := 0) rfl (Nat.le_of_ble_eq_true rfl) trivial (show decode cX0_init 11 = .ok (.putfield 15, 3) from by decide +kernel) ?_
  refine g_aload0 K (show decode cX0_init 14 = .ok (.aload_n 0, 1) from by decide +kernel) rfl rfl ?_
  refine g_iconst K (show decode cX0_init 15 = .ok (.iconst 0, 1) from by decide +kernel) ?_
  refine g_put K fX0_ok false rfl (fun h => by cases h) (fun C T N h => by cases h; rfl) (q := 0) rfl (Nat.le_of_ble_eq_true rfl) trivial (show decode cX0_init 16 = .ok (.putfield 18, 3) from by decide +kernel) ?_
  refine g_aload0 K (show decode cX0_init 19 = .ok (.aload_n 0, 1) from by decide +kernel) rfl rfl ?_
  refine g_iconst K (show decode cX0_init 20 = .ok (.iconst 0, 1) from by decide +kernel) ?_
  refine g_put K fX0_ok false rfl (fun h => by cases h) (fun C T N h => by cases h; rfl) (q := 0) rfl (Nat.le_of_ble_eq_true rfl) trivial (show decode cX0_init 21 = .ok (.putfield 21, 3) from by decide +kernel) ?_
  refine g_aload0 K (show decode cX0_init 24 = .ok (.aload_n 0, 1) from by decide +kernel) rfl rfl ?_
  refine g_sipush K (show decode cX0_init 25 = .ok (.sipush 3000, 3) from by decide +kernel) ?_
  refine g_newa K (ti := 0) (N := 3000) (Or.inl ⟨rfl, rfl⟩) (by decide +kernel) (by decide +kernel) (Nat.le_of_ble_eq_true rfl) (Nat.le_of_ble_eq_true rfl) (Nat.le_of_ble_eq_true rfl) w_aI (show decode cX0_init 28 = .ok (.newarray .int, 2) from by decide +kernel) ?_
  refine g_put K fX0_ok true rfl (fun _ => hi) (fun C T N h => by cases h; rfl) (q := 0) rfl (Nat.le_of_ble_eq_true rfl) trivial (show decode cX0_init 30 = .ok (.putfield 24, 3) from by decide +kernel) ?_
  refine g_aload0 K (show decode cX0_init 33 = .ok (.aload_n 0, 1) from by decide +kernel) rfl rfl ?_
  refine g_sipush K (show decode cX0_init 34 = .ok (.sipush 3000, 3) from by decide +kernel) ?_
  refine g_newa K (ti := 0) (N := 3000) (Or.inl ⟨rfl, rfl⟩) (by decide +kernel) (by decide +kernel) (Nat.le_of_ble_eq_true rfl) (Nat.le_of_ble_eq_true rfl) (Nat.le_of_ble_eq_true rfl) w_aI (show decode cX0_init 37 = .ok (.newarray .int, 2) from by decide +kernel) ?_
  refine g_put K fX0_ok true rfl (fun _ => hi) (fun C T N h => by cases h; rfl) (q := 0) rfl (Nat.le_of_ble_eq_true rfl) trivial (show decode cX0_init 39 = .ok (.putfield 28, 3) from by decide +kernel) ?_
  refine g_aload0 K (show decode cX0_init 42 = .ok (.aload_n 0, 1) from by decide +kernel) rfl rfl ?_
  refine g_bipush K (show decode cX0_init 43 = .ok (.bipush 8, 2) from by decide +kernel) ?_
  refine g_newa K (ti := 0) (N := 8) (Or.inl ⟨rfl, rfl⟩) (by decide +kernel) (by decide +kernel) (Nat.le_of_ble_eq_true rfl) (Nat.le_of_ble_eq_true rfl) (Nat.le_of_ble_eq_true rfl) w_aI (show decode cX0_init 45 = .ok (.newarray .int, 2) from by decide +kernel) ?_
  refine g_put K fX0_ok true rfl (fun _ => hi) (fun C T N h => by cases h; rfl) (q := 0) rfl (Nat.le_of_ble_eq_true rfl) trivial (show decode cX0_init 47 = .ok (.putfield 31, 3) from by decide +kernel) ?_
  refine g_aload0 K (show decode cX0_init 50 = .ok (.aload_n 0, 1) from by decide +kernel) rfl rfl ?_
  refine g_bipush K (show decode cX0_init 51 = .ok (.bipush 8, 2) from by decide +kernel) ?_
  refine g_newa K (ti := 0) (N := 8) (Or.inl ⟨rfl, rfl⟩) (by decide +kernel) (by decide +kernel) (Nat.le_of_ble_eq_true rfl) (Nat.le_of_ble_eq_true rfl) (Nat.le_of_ble_eq_true rfl) w_aI (show decode cX0_init 53 = .ok (.newarray .int, 2) from by decide +kernel) ?_
  refine g_put K fX0_ok true rfl (fun _ => hi) (fun C T N h => by cases h; rfl) (q := 0) rfl (Nat.le_of_ble_eq_true rfl) trivial (show decode cX0_init 55 = .ok (.putfield 34, 3) from by decide +kernel) ?_
  refine g_aload0 K (show decode cX0_init 58 = .ok (.aload_n 0, 1) from by decide +kernel) rfl rfl ?_
  refine g_bipush K (show decode cX0_init 59 = .ok (.bipush 96, 2) from by decide +kernel) ?_
  refine g_newa K (ti := 0) (N := 96) (Or.inl ⟨rfl, rfl⟩) (by decide +kernel) (by decide +kernel) (Nat.le_of_ble_eq_true rfl) (Nat.le_of_ble_eq_true rfl) (Nat.le_of_ble_eq_true rfl) w_aI (show decode cX0_init 61 = .ok (.newarray .int, 2) from by decide +kernel) ?_
  refine g_put K fX0_ok true rfl (fun _ => hi) (fun C T N h => by cases h; rfl) (q := 0) rfl (Nat.le_of_ble_eq_true rfl) trivial (show decode cX0_init 63 = .ok (.putfield 37, 3) from by decide +kernel) ?_
  exact fun hB z1 hz => hret 66 _ z1 (show decode cX0_init 66 = .ok (.return_, 1) from by decide +kernel) hB.1 hz
def IX4 : XW := [.inr (4, [.int (Int32.ofInt 0), .int (Int32.ofInt 0), .int (Int32.ofInt 0), .int (Int32.ofInt 0), .ref 1, .ref 2, .ref 3, .ref 4, .ref 5, .int (Int32.ofInt 0)]), .inl (0, 8, .inl (fun _ => 0)), .inl (0, 8, .inl (fun _ => 0)), .inl (0, 1024, .inl (fun _ => 0)), .inl (0, 1024, .inl (fun _ => 0)), .inl (0, 1024, .inl (fun _ => 0))]
theorem fsX4_ok : ∀ j, j < 10 → defaultValue (tyX4 j) = vp_V [.int 0, .int 0, .int 0, .int 0, .null, .null, .null, .null, .null, .int 0] j := by decide +kernel
theorem mX4_init : gCT 1 5 3088 yX4_init cX4_init 4 [.int 0, .int 0, .int 0, .int 0, .null, .null, .null, .null, .null, .int 0] IX4 := by
  refine gmet (by decide +kernel) rfl (fun z => rfl) (fun v hv => ?_) (fun {p l e s m args below meth c D t2 L xs A Q h0} K hi hret => ?_)
  · simp only [List.mem_cons, List.not_mem_nil, or_false] at hv
    rcases hv with rfl | rfl | rfl | rfl | rfl | rfl | rfl | rfl | rfl | rfl <;> trivial
  refine g_aload0 K (show decode cX4_init 0 = .ok (.aload_n 0, 1) from by decide +kernel) rfl rfl ?_
  refine g_obj K (lw_m 1 170 (by decide +kernel)) w_oi w_oc ⟨Nat.le_of_ble_eq_true rfl, Nat.le_of_ble_eq_true rfl⟩ (show decode cX4_init 1 = .ok (.invokespecial 5, 3) from by decide +kernel) ?_
  refine g_aload0 K (show decode cX4_init 4 = .ok (.aload_n 0, 1) from by decide +kernel) rfl rfl ?_
  refine g_iconst K (show decode cX4_init 5 = .ok (.iconst 0, 1) from by decide +kernel) ?_
  refine g_put K fX4_ok false rfl (fun h => by cases h) (fun C T N h => by cases h; rfl) (q := 0) rfl (Nat.le_of_ble_eq_true rfl) trivial (show decode cX4_init 6 = .ok (.putfield 11, 3) from by decide +kernel) ?_
  refine g_aload0 K (show decode cX4_init 9 = .ok (.aload_n 0, 1) from by decide +kernel) rfl rfl ?_
  refine g_iconst K (show decode cX4_init 10 = .ok (.iconst 0, 1) from by decide +kernel) ?_
  refine g_put K fX4_ok false rfl (fun h => by cases h) (fun C T N h => by cases h; rfl) (q := 0) rfl (Nat.le_of_ble_eq_true rfl) trivial (show decode cX4_init 11 = .ok (.putfield 15, 3) from by decide +kernel) ?_
  refine g_aload0 K (show decode cX4_init 14 = .ok (.aload_n 0, 1) from by decide +kernel) rfl rfl ?_
  refine g_iconst K (show decode cX4_init 15 = .ok (.iconst 0, 1) from by decide +kernel) ?_
  refine g_put K fX4_ok false rfl (fun h => by cases h) (fun C T N h => by cases h; rfl) (q := 0) rfl (Nat.le_of_ble_eq_true rfl) trivial (show decode cX4_init 16 = .ok (.putfield 18, 3) from by decide +kernel) ?_
  refine g_aload0 K (show decode cX4_init 19 = .ok (.aload_n 0, 1) from by decide +kernel) rfl rfl ?_
  refine g_iconst K (show decode cX4_init 20 = .ok (.iconst 0, 1) from by decide +kernel) ?_
  refine g_put K fX4_ok false rfl (fun h => by cases h) (fun C T N h => by cases h; rfl) (q := 0) rfl (Nat.le_of_ble_eq_true rfl) trivial (show decode cX4_init 21 = .ok (.putfield 21, 3) from by decide +kernel) ?_
  refine g_aload0 K (show decode cX4_init 24 = .ok (.aload_n 0, 1) from by decide +kernel) rfl rfl ?_
  refine g_bipush K (show decode cX4_init 25 = .ok (.bipush 8, 2) from by decide +kernel) ?_
  refine g_newa K (ti := 0) (N := 8) (Or.inl ⟨rfl, rfl⟩) (by decide +kernel) (by decide +kernel) (Nat.le_of_ble_eq_true rfl) (Nat.le_of_ble_eq_true rfl) (Nat.le_of_ble_eq_true rfl) w_aI (show decode cX4_init 27 = .ok (.newarray .int, 2) from by decide +kernel) ?_
  refine g_put K fX4_ok true rfl (fun _ => hi) (fun C T N h => by cases h; rfl) (q := 0) rfl (Nat.le_of_ble_eq_true rfl) trivial (show decode cX4_init 29 = .ok (.putfield 24, 3) from by decide +kernel) ?_
  refine g_aload0 K (show decode cX4_init 32 = .ok (.aload_n 0, 1) from by decide +kernel) rfl rfl ?_
  refine g_bipush K (show decode cX4_init 33 = .ok (.bipush 8, 2) from by decide +kernel) ?_
  refine g_newa K (ti := 0) (N := 8) (Or.inl ⟨rfl, rfl⟩) (by decide +kernel) (by decide +kernel) (Nat.le_of_ble_eq_true rfl) (Nat.le_of_ble_eq_true rfl) (Nat.le_of_ble_eq_true rfl) w_aI (show decode cX4_init 35 = .ok (.newarray .int, 2) from by decide +kernel) ?_
  refine g_put K fX4_ok true rfl (fun _ => hi) (fun C T N h => by cases h; rfl) (q := 0) rfl (Nat.le_of_ble_eq_true rfl) trivial (show decode cX4_init 37 = .ok (.putfield 28, 3) from by decide +kernel) ?_
  refine g_aload0 K (show decode cX4_init 40 = .ok (.aload_n 0, 1) from by decide +kernel) rfl rfl ?_
  refine g_sipush K (show decode cX4_init 41 = .ok (.sipush 1024, 3) from by decide +kernel) ?_
  refine g_newa K (ti := 0) (N := 1024) (Or.inl ⟨rfl, rfl⟩) (by decide +kernel) (by decide +kernel) (Nat.le_of_ble_eq_true rfl) (Nat.le_of_ble_eq_true rfl) (Nat.le_of_ble_eq_true rfl) w_aI (show decode cX4_init 44 = .ok (.newarray .int, 2) from by decide +kernel) ?_
  refine g_put K fX4_ok true rfl (fun _ => hi) (fun C T N h => by cases h; rfl) (q := 0) rfl (Nat.le_of_ble_eq_true rfl) trivial (show decode cX4_init 46 = .ok (.putfield 31, 3) from by decide +kernel) ?_
  refine g_aload0 K (show decode cX4_init 49 = .ok (.aload_n 0, 1) from by decide +kernel) rfl rfl ?_
  refine g_sipush K (show decode cX4_init 50 = .ok (.sipush 1024, 3) from by decide +kernel) ?_
  refine g_newa K (ti := 0) (N := 1024) (Or.inl ⟨rfl, rfl⟩) (by decide +kernel) (by decide +kernel) (Nat.le_of_ble_eq_true rfl) (Nat.le_of_ble_eq_true rfl) (Nat.le_of_ble_eq_true rfl) w_aI (show decode cX4_init 53 = .ok (.newarray .int, 2) from by decide +kernel) ?_
  refine g_put K fX4_ok true rfl (fun _ => hi) (fun C T N h => by cases h; rfl) (q := 0) rfl (Nat.le_of_ble_eq_true rfl) trivial (show decode cX4_init 55 = .ok (.putfield 34, 3) from by decide +kernel) ?_
  refine g_aload0 K (show decode cX4_init 58 = .ok (.aload_n 0, 1) from by decide +kernel) rfl rfl ?_
  refine g_sipush K (show decode cX4_init 59 = .ok (.sipush 1024, 3) from by decide +kernel) ?_
  refine g_newa K (ti := 0) (N := 1024) (Or.inl ⟨rfl, rfl⟩) (by decide +kernel) (by decide +kernel) (Nat.le_of_ble_eq_true rfl) (Nat.le_of_ble_eq_true rfl) (Nat.le_of_ble_eq_true rfl) w_aI (show decode cX4_init 62 = .ok (.newarray .int, 2) from by decide +kernel) ?_
  refine g_put K fX4_ok true rfl (fun _ => hi) (fun C T N h => by cases h; rfl) (q := 0) rfl (Nat.le_of_ble_eq_true rfl) trivial (show decode cX4_init 64 = .ok (.putfield 37, 3) from by decide +kernel) ?_
  refine g_aload0 K (show decode cX4_init 67 = .ok (.aload_n 0, 1) from by decide +kernel) rfl rfl ?_
  refine g_iconst K (show decode cX4_init 68 = .ok (.iconst 0, 1) from by decide +kernel) ?_
  refine g_put K fX4_ok false rfl (fun h => by cases h) (fun C T N h => by cases h; rfl) (q := 0) rfl (Nat.le_of_ble_eq_true rfl) trivial (show decode cX4_init 69 = .ok (.putfield 40, 3) from by decide +kernel) ?_
  exact fun hB z1 hz => hret 72 _ z1 (show decode cX4_init 72 = .ok (.return_, 1) from by decide +kernel) hB.1 hz
def IX5 : XW := [.inr (5, [.ref 1, .ref 2]), .inl (0, 8, .inl (fun _ => 0)), .inl (0, 8, .inl (fun _ => 0))]
theorem fsX5_ok : ∀ j, j < 2 → defaultValue (tyX5 j) = vp_V [.null, .null] j := by decide +kernel
theorem mX5_init : gCT 1 2 16 yX5_init cX5_init 5 [.null, .null] IX5 := by
  refine gmet (by decide +kernel) rfl (fun z => rfl) (fun v hv => ?_) (fun {p l e s m args below meth c D t2 L xs A Q h0} K hi hret => ?_)
  · simp only [List.mem_cons, List.not_mem_nil, or_false] at hv
    rcases hv with rfl | rfl <;> trivial
  refine g_aload0 K (show decode cX5_init 0 = .ok (.aload_n 0, 1) from by decide +kernel) rfl rfl ?_
  refine g_obj K (lw_m 1 156 (by decide +kernel)) w_oi w_oc ⟨Nat.le_of_ble_eq_true rfl, Nat.le_of_ble_eq_true rfl⟩ (show decode cX5_init 1 = .ok (.invokespecial 3, 3) from by decide +kernel) ?_
  refine g_aload0 K (show decode cX5_init 4 = .ok (.aload_n 0, 1) from by decide +kernel) rfl rfl ?_
  refine g_bipush K (show decode cX5_init 5 = .ok (.bipush 8, 2) from by decide +kernel) ?_
  refine g_newa K (ti := 0) (N := 8) (Or.inl ⟨rfl, rfl⟩) (by decide +kernel) (by decide +kernel) (Nat.le_of_ble_eq_true rfl) (Nat.le_of_ble_eq_true rfl) (Nat.le_of_ble_eq_true rfl) w_aI (show decode cX5_init 7 = .ok (.newarray .int, 2) from by decide +kernel) ?_
  refine g_put K fX5_ok false rfl (fun h => by cases h) (fun C T N h => by cases h; rfl) (q := 0) rfl (Nat.le_of_ble_eq_true rfl) trivial (show decode cX5_init 9 = .ok (.putfield 9, 3) from by decide +kernel) ?_
  refine g_aload0 K (show decode cX5_init 12 = .ok (.aload_n 0, 1) from by decide +kernel) rfl rfl ?_
  refine g_bipush K (show decode cX5_init 13 = .ok (.bipush 8, 2) from by decide +kernel) ?_
  refine g_newa K (ti := 0) (N := 8) (Or.inl ⟨rfl, rfl⟩) (by decide +kernel) (by decide +kernel) (Nat.le_of_ble_eq_true rfl) (Nat.le_of_ble_eq_true rfl) (Nat.le_of_ble_eq_true rfl) w_aI (show decode cX5_init 15 = .ok (.newarray .int, 2) from by decide +kernel) ?_
  refine g_put K fX5_ok false rfl (fun h => by cases h) (fun C T N h => by cases h; rfl) (q := 0) rfl (Nat.le_of_ble_eq_true rfl) trivial (show decode cX5_init 17 = .ok (.putfield 15, 3) from by decide +kernel) ?_
  exact fun hB z1 hz => hret 20 _ z1 (show decode cX5_init 20 = .ok (.return_, 1) from by decide +kernel) hB.1 hz
def IX6 : XW := [.inr (6, [.ref 1, .ref 2, .ref 3]), .inl (0, 4, .inl (fun _ => 0)), .inl (0, 4, .inl (fun _ => 0)), .inl (2, 4, .inr (.inr (.inr (.inr (KT 4 4))))), .inl (0, 40, .inl (fun _ => 0)), .inl (0, 40, .inl (fun _ => 0)), .inl (0, 40, .inl (fun _ => 0)), .inl (0, 40, .inl (fun _ => 0))]
theorem fsX6_ok : ∀ j, j < 3 → defaultValue (tyX6 j) = vp_V [.null, .null, .null] j := by decide +kernel
theorem mX6_init : gCT 1 7 172 yX6_init cX6_init 6 [.null, .null, .null] IX6 := by
  refine gmet (by decide +kernel) rfl (fun z => rfl) (fun v hv => ?_) (fun {p l e s m args below meth c D t2 L xs A Q h0} K hi hret => ?_)
  · simp only [List.mem_cons, List.not_mem_nil, or_false] at hv
    rcases hv with rfl | rfl | rfl <;> trivial
  refine g_aload0 K (show decode cX6_init 0 = .ok (.aload_n 0, 1) from by decide +kernel) rfl rfl ?_
  refine g_obj K (lw_m 2 8 (by decide +kernel)) w_oi w_oc ⟨Nat.le_of_ble_eq_true rfl, Nat.le_of_ble_eq_true rfl⟩ (show decode cX6_init 1 = .ok (.invokespecial 3, 3) from by decide +kernel) ?_
  refine g_aload0 K (show decode cX6_init 4 = .ok (.aload_n 0, 1) from by decide +kernel) rfl rfl ?_
  refine g_iconst K (show decode cX6_init 5 = .ok (.iconst 4, 1) from by decide +kernel) ?_
  refine g_newa K (ti := 0) (N := 4) (Or.inl ⟨rfl, rfl⟩) (by decide +kernel) (by decide +kernel) (Nat.le_of_ble_eq_true rfl) (Nat.le_of_ble_eq_true rfl) (Nat.le_of_ble_eq_true rfl) w_aI (show decode cX6_init 6 = .ok (.newarray .int, 2) from by decide +kernel) ?_
  refine g_put K fX6_ok true rfl (fun _ => hi) (fun C T N h => by cases h; rfl) (q := 0) rfl (Nat.le_of_ble_eq_true rfl) trivial (show decode cX6_init 8 = .ok (.putfield 9, 3) from by decide +kernel) ?_
  refine g_aload0 K (show decode cX6_init 11 = .ok (.aload_n 0, 1) from by decide +kernel) rfl rfl ?_
  refine g_iconst K (show decode cX6_init 12 = .ok (.iconst 4, 1) from by decide +kernel) ?_
  refine g_newa K (ti := 0) (N := 4) (Or.inl ⟨rfl, rfl⟩) (by decide +kernel) (by decide +kernel) (Nat.le_of_ble_eq_true rfl) (Nat.le_of_ble_eq_true rfl) (Nat.le_of_ble_eq_true rfl) w_aI (show decode cX6_init 13 = .ok (.newarray .int, 2) from by decide +kernel) ?_
  refine g_put K fX6_ok true rfl (fun _ => hi) (fun C T N h => by cases h; rfl) (q := 0) rfl (Nat.le_of_ble_eq_true rfl) trivial (show decode cX6_init 15 = .ok (.putfield 15, 3) from by decide +kernel) ?_
  refine g_aload0 K (show decode cX6_init 18 = .ok (.aload_n 0, 1) from by decide +kernel) rfl rfl ?_
  refine g_iconst K (show decode cX6_init 19 = .ok (.iconst 4, 1) from by decide +kernel) ?_
  refine g_bipush K (show decode cX6_init 20 = .ok (.bipush 40, 2) from by decide +kernel) ?_
  refine g_multi K (N := 4) (K := 40) (by decide +kernel) (by decide +kernel) (by decide +kernel) (by decide +kernel) (Nat.le_of_ble_eq_true rfl) (Nat.le_of_ble_eq_true rfl) (Nat.le_of_ble_eq_true rfl) (Nat.le_of_ble_eq_true rfl) (lw_m 2 9 (by decide +kernel)) w_aI (show decode cX6_init 22 = .ok (.multianewarray 18 2, 4) from by decide +kernel) (W1 := [.inl (2, 4, .inr (.inr (.inr (.inr (KT 4 4))))), .inl (0, 40, .inl (fun _ => 0)), .inl (0, 40, .inl (fun _ => 0)), .inl (0, 40, .inl (fun _ => 0)), .inl (0, 40, .inl (fun _ => 0))]) (MW_sh 3 4 40) ?_
  refine g_put K fX6_ok true rfl (fun _ => hi) (fun C T N h => by cases h; rfl) (q := 0) rfl (Nat.le_of_ble_eq_true rfl) trivial (show decode cX6_init 26 = .ok (.putfield 20, 3) from by decide +kernel) ?_
  exact fun hB z1 hz => hret 29 _ z1 (show decode cX6_init 29 = .ok (.return_, 1) from by decide +kernel) hB.1 hz
def IX7 : XW := [.inr (7, [.ref 1]), .inl (2, 8, .inr (.inr (.inr (.inr (KT 8 2))))), .inl (0, 144, .inl (fun _ => 0)), .inl (0, 144, .inl (fun _ => 0)), .inl (0, 144, .inl (fun _ => 0)), .inl (0, 144, .inl (fun _ => 0)), .inl (0, 144, .inl (fun _ => 0)), .inl (0, 144, .inl (fun _ => 0)), .inl (0, 144, .inl (fun _ => 0)), .inl (0, 144, .inl (fun _ => 0))]
theorem fsX7_ok : ∀ j, j < 1 → defaultValue (tyX7 j) = vp_V [.null] j := by decide +kernel
theorem mX7_init : gCT 1 9 1160 yX7_init cX7_init 7 [.null] IX7 := by
  refine gmet (by decide +kernel) rfl (fun z => rfl) (fun v hv => ?_) (fun {p l e s m args below meth c D t2 L xs A Q h0} K hi hret => ?_)
  · rw [List.mem_singleton.mp hv]
    trivial
  refine g_aload0 K (show decode cX7_init 0 = .ok (.aload_n 0, 1) from by decide +kernel) rfl rfl ?_
  refine g_obj K (lw_m 1 144 (by decide +kernel)) w_oi w_oc ⟨Nat.le_of_ble_eq_true rfl, Nat.le_of_ble_eq_true rfl⟩ (show decode cX7_init 1 = .ok (.invokespecial 3, 3) from by decide +kernel) ?_
  refine g_aload0 K (show decode cX7_init 4 = .ok (.aload_n 0, 1) from by decide +kernel) rfl rfl ?_
  refine g_bipush K (show decode cX7_init 5 = .ok (.bipush 8, 2) from by decide +kernel) ?_
  refine g_sipush K (show decode cX7_init 7 = .ok (.sipush 144, 3) from by decide +kernel) ?_
  refine g_multi K (N := 8) (K := 144) (by decide +kernel) (by decide +kernel) (by decide +kernel) (by decide +kernel) (Nat.le_of_ble_eq_true rfl) (Nat.le_of_ble_eq_true rfl) (Nat.le_of_ble_eq_true rfl) (Nat.le_of_ble_eq_true rfl) (lw_m 1 145 (by decide +kernel)) w_aI (show decode cX7_init 10 = .ok (.multianewarray 9 2, 4) from by decide +kernel) (W1 := [.inl (2, 8, .inr (.inr (.inr (.inr (KT 8 2))))), .inl (0, 144, .inl (fun _ => 0)), .inl (0, 144, .inl (fun _ => 0)), .inl (0, 144, .inl (fun _ => 0)), .inl (0, 144, .inl (fun _ => 0)), .inl (0, 144, .inl (fun _ => 0)), .inl (0, 144, .inl (fun _ => 0)), .inl (0, 144, .inl (fun _ => 0)), .inl (0, 144, .inl (fun _ => 0))]) (MW_sh 1 8 144) ?_
  refine g_put K fX7_ok true rfl (fun _ => hi) (fun C T N h => by cases h; rfl) (q := 0) rfl (Nat.le_of_ble_eq_true rfl) trivial (show decode cX7_init 14 = .ok (.putfield 11, 3) from by decide +kernel) ?_
  exact fun hB z1 hz => hret 17 _ z1 (show decode cX7_init 17 = .ok (.return_, 1) from by decide +kernel) hB.1 hz
def IX8 : XW := [.inr (8, [.ref 1, .int (Int32.ofInt 0), .int (Int32.ofInt 0), .int (Int32.ofInt 0), .int (Int32.ofInt 0)]), .inl (0, 40, .inl (fun _ => 0))]
theorem fsX8_ok : ∀ j, j < 5 → defaultValue (tyX8 j) = vp_V [.null, .int 0, .int 0, .int 0, .int 0] j := by decide +kernel
theorem mX8_init : gCT 1 1 40 yX8_init cX8_init 8 [.null, .int 0, .int 0, .int 0, .int 0] IX8 := by
  refine gmet (by decide +kernel) rfl (fun z => rfl) (fun v hv => ?_) (fun {p l e s m args below meth c D t2 L xs A Q h0} K hi hret => ?_)
  · simp only [List.mem_cons, List.not_mem_nil, or_false] at hv
    rcases hv with rfl | rfl | rfl | rfl | rfl <;> trivial
  refine g_aload0 K (show decode cX8_init 0 = .ok (.aload_n 0, 1) from by decide +kernel) rfl rfl ?_
  refine g_obj K (lw_m 2 25 (by decide +kernel)) w_oi w_oc ⟨Nat.le_of_ble_eq_true rfl, Nat.le_of_ble_eq_true rfl⟩ (show decode cX8_init 1 = .ok (.invokespecial 3, 3) from by decide +kernel) ?_
  refine g_aload0 K (show decode cX8_init 4 = .ok (.aload_n 0, 1) from by decide +kernel) rfl rfl ?_
  refine g_bipush K (show decode cX8_init 5 = .ok (.bipush 40, 2) from by decide +kernel) ?_
  refine g_newa K (ti := 0) (N := 40) (Or.inl ⟨rfl, rfl⟩) (by decide +kernel) (by decide +kernel) (Nat.le_of_ble_eq_true rfl) (Nat.le_of_ble_eq_true rfl) (Nat.le_of_ble_eq_true rfl) w_aI (show decode cX8_init 7 = .ok (.newarray .int, 2) from by decide +kernel) ?_
  refine g_put K fX8_ok true rfl (fun _ => hi) (fun C T N h => by cases h; rfl) (q := 0) rfl (Nat.le_of_ble_eq_true rfl) trivial (show decode cX8_init 9 = .ok (.putfield 11, 3) from by decide +kernel) ?_
  refine g_aload0 K (show decode cX8_init 12 = .ok (.aload_n 0, 1) from by decide +kernel) rfl rfl ?_
  refine g_iconst K (show decode cX8_init 13 = .ok (.iconst 0, 1) from by decide +kernel) ?_
  refine g_put K fX8_ok false rfl (fun h => by cases h) (fun C T N h => by cases h; rfl) (q := 0) rfl (Nat.le_of_ble_eq_true rfl) trivial (show decode cX8_init 14 = .ok (.putfield 15, 3) from by decide +kernel) ?_
  refine g_aload0 K (show decode cX8_init 17 = .ok (.aload_n 0, 1) from by decide +kernel) rfl rfl ?_
  refine g_iconst K (show decode cX8_init 18 = .ok (.iconst 0, 1) from by decide +kernel) ?_
  refine g_put K fX8_ok false rfl (fun h => by cases h) (fun C T N h => by cases h; rfl) (q := 0) rfl (Nat.le_of_ble_eq_true rfl) trivial (show decode cX8_init 19 = .ok (.putfield 19, 3) from by decide +kernel) ?_
  refine g_aload0 K (show decode cX8_init 22 = .ok (.aload_n 0, 1) from by decide +kernel) rfl rfl ?_
  refine g_iconst K (show decode cX8_init 23 = .ok (.iconst 0, 1) from by decide +kernel) ?_
  refine g_put K fX8_ok false rfl (fun h => by cases h) (fun C T N h => by cases h; rfl) (q := 0) rfl (Nat.le_of_ble_eq_true rfl) trivial (show decode cX8_init 24 = .ok (.putfield 22, 3) from by decide +kernel) ?_
  refine g_aload0 K (show decode cX8_init 27 = .ok (.aload_n 0, 1) from by decide +kernel) rfl rfl ?_
  refine g_iconst K (show decode cX8_init 28 = .ok (.iconst 0, 1) from by decide +kernel) ?_
  refine g_put K fX8_ok false rfl (fun h => by cases h) (fun C T N h => by cases h; rfl) (q := 0) rfl (Nat.le_of_ble_eq_true rfl) trivial (show decode cX8_init 29 = .ok (.putfield 25, 3) from by decide +kernel) ?_
  exact fun hB z1 hz => hret 32 _ z1 (show decode cX8_init 32 = .ok (.return_, 1) from by decide +kernel) hB.1 hz
def IX1 : XW := [.inr (1, [.ref 1, .ref 2, .ref 3, .ref 4, .ref 5, .ref 6, .ref 7, .ref 8, .ref 9, .ref 10, .ref 14, .int (Int8.ofInt 7).toInt32, .int (Int32.ofInt 0), .int (Int32.ofInt 0), .int (Int32.ofInt 1), .int (Int32.ofInt 0), .int (Int32.ofInt 0)]), .inl (0, 8, .inl (fun _ => 0)), .inl (0, 8, .inl (fun _ => 0)), .inl (0, 8, .inl (fun _ => 0)), .inl (0, 8, .inl (fun _ => 0)), .inl (0, 8, .inl (fun _ => 0)), .inl (0, 8, .inl (fun _ => 0)), .inl (0, 8, .inl (fun _ => 0)), .inl (1, 50, .inl (fun _ => 0)), .inl (0, 20, .inl (fun _ => 0)), .inr (2, [.ref 11, .ref 12, .ref 13, .int (Int32.ofInt 0)]), .inl (0, 50, .inl (fun _ => 0)), .inl (0, 50, .inl (fun _ => 0)), .inl (0, 4, .inl (fun _ => 0)), .inr (2, [.ref 15, .ref 16, .ref 17, .int (Int32.ofInt 0)]), .inl (0, 50, .inl (fun _ => 0)), .inl (0, 50, .inl (fun _ => 0)), .inl (0, 4, .inl (fun _ => 0))]
theorem fsX1_ok : ∀ j, j < 17 → defaultValue (tyX1 j) = vp_V [.null, .null, .null, .null, .null, .null, .null, .null, .null, .null, .null, .int 0, .int 0, .int 0, .int 0, .int 0, .int 0] j := by decide +kernel
theorem mX1_init : gCT 2 17 342 yX1_init cX1_init 1 [.null, .null, .null, .null, .null, .null, .null, .null, .null, .null, .null, .int 0, .int 0, .int 0, .int 0, .int 0, .int 0] IX1 := by
  refine gmet (by decide +kernel) rfl (fun z => rfl) (fun v hv => ?_) (fun {p l e s m args below meth c D t2 L xs A Q h0} K hi hret => ?_)
  · simp only [List.mem_cons, List.not_mem_nil, or_false] at hv
    rcases hv with rfl | rfl | rfl | rfl | rfl | rfl | rfl | rfl | rfl | rfl | rfl | rfl | rfl | rfl | rfl | rfl | rfl <;> trivial
  refine g_aload0 K (show decode cX1_init 0 = .ok (.aload_n 0, 1) from by decide +kernel) rfl rfl ?_
  refine g_obj K (lw_m 1 33 (by decide +kernel)) w_oi w_oc ⟨Nat.le_of_ble_eq_true rfl, Nat.le_of_ble_eq_true rfl⟩ (show decode cX1_init 1 = .ok (.invokespecial 3, 3) from by decide +kernel) ?_
  refine g_aload0 K (show decode cX1_init 4 = .ok (.aload_n 0, 1) from by decide +kernel) rfl rfl ?_
  refine g_bipush K (show decode cX1_init 5 = .ok (.bipush 8, 2) from by decide +kernel) ?_
  refine g_newa K (ti := 0) (N := 8) (Or.inl ⟨rfl, rfl⟩) (by decide +kernel) (by decide +kernel) (Nat.le_of_ble_eq_true rfl) (Nat.le_of_ble_eq_true rfl) (Nat.le_of_ble_eq_true rfl) w_aI (show decode cX1_init 7 = .ok (.newarray .int, 2) from by decide +kernel) ?_
  refine g_put K fX1_ok true rfl (fun _ => hi) (fun C T N h => by cases h; rfl) (q := 0) rfl (Nat.le_of_ble_eq_true rfl) trivial (show decode cX1_init 9 = .ok (.putfield 9, 3) from by decide +kernel) ?_
  refine g_aload0 K (show decode cX1_init 12 = .ok (.aload_n 0, 1) from by decide +kernel) rfl rfl ?_
  refine g_bipush K (show decode cX1_init 13 = .ok (.bipush 8, 2) from by decide +kernel) ?_
  refine g_newa K (ti := 0) (N := 8) (Or.inl ⟨rfl, rfl⟩) (by decide +kernel) (by decide +kernel) (Nat.le_of_ble_eq_true rfl) (Nat.le_of_ble_eq_true rfl) (Nat.le_of_ble_eq_true rfl) w_aI (show decode cX1_init 15 = .ok (.newarray .int, 2) from by decide +kernel) ?_
  refine g_put K fX1_ok true rfl (fun _ => hi) (fun C T N h => by cases h; rfl) (q := 0) rfl (Nat.le_of_ble_eq_true rfl) trivial (show decode cX1_init 17 = .ok (.putfield 15, 3) from by decide +kernel) ?_
  refine g_aload0 K (show decode cX1_init 20 = .ok (.aload_n 0, 1) from by decide +kernel) rfl rfl ?_
  refine g_bipush K (show decode cX1_init 21 = .ok (.bipush 8, 2) from by decide +kernel) ?_
  refine g_newa K (ti := 0) (N := 8) (Or.inl ⟨rfl, rfl⟩) (by decide +kernel) (by decide +kernel) (Nat.le_of_ble_eq_true rfl) (Nat.le_of_ble_eq_true rfl) (Nat.le_of_ble_eq_true rfl) w_aI (show decode cX1_init 23 = .ok (.newarray .int, 2) from by decide +kernel) ?_
  refine g_put K fX1_ok true rfl (fun _ => hi) (fun C T N h => by cases h; rfl) (q := 0) rfl (Nat.le_of_ble_eq_true rfl) trivial (show decode cX1_init 25 = .ok (.putfield 18, 3) from by decide +kernel) ?_
  refine g_aload0 K (show decode cX1_init 28 = .ok (.aload_n 0, 1) from by decide +kernel) rfl rfl ?_
  refine g_bipush K (show decode cX1_init 29 = .ok (.bipush 8, 2) from by decide +kernel) ?_
  refine g_newa K (ti := 0) (N := 8) (Or.inl ⟨rfl, rfl⟩) (by decide +kernel) (by decide +kernel) (Nat.le_of_ble_eq_true rfl) (Nat.le_of_ble_eq_true rfl) (Nat.le_of_ble_eq_true rfl) w_aI (show decode cX1_init 31 = .ok (.newarray .int, 2) from by decide +kernel) ?_
  refine g_put K fX1_ok true rfl (fun _ => hi) (fun C T N h => by cases h; rfl) (q := 0) rfl (Nat.le_of_ble_eq_true rfl) trivial (show decode cX1_init 33 = .ok (.putfield 21, 3) from by decide +kernel) ?_
  refine g_aload0 K (show decode cX1_init 36 = .ok (.aload_n 0, 1) from by decide +kernel) rfl rfl ?_
  refine g_bipush K (show decode cX1_init 37 = .ok (.bipush 8, 2) from by decide +kernel) ?_
  refine g_newa K (ti := 0) (N := 8) (Or.inl ⟨rfl, rfl⟩) (by decide +kernel) (by decide +kernel) (Nat.le_of_ble_eq_true rfl) (Nat.le_of_ble_eq_true rfl) (Nat.le_of_ble_eq_true rfl) w_aI (show decode cX1_init 39 = .ok (.newarray .int, 2) from by decide +kernel) ?_
  refine g_put K fX1_ok true rfl (fun _ => hi) (fun C T N h => by cases h; rfl) (q := 0) rfl (Nat.le_of_ble_eq_true rfl) trivial (show decode cX1_init 41 = .ok (.putfield 24, 3) from by decide +kernel) ?_
  refine g_aload0 K (show decode cX1_init 44 = .ok (.aload_n 0, 1) from by decide +kernel) rfl rfl ?_
  refine g_bipush K (show decode cX1_init 45 = .ok (.bipush 8, 2) from by decide +kernel) ?_
  refine g_newa K (ti := 0) (N := 8) (Or.inl ⟨rfl, rfl⟩) (by decide +kernel) (by decide +kernel) (Nat.le_of_ble_eq_true rfl) (Nat.le_of_ble_eq_true rfl) (Nat.le_of_ble_eq_true rfl) w_aI (show decode cX1_init 47 = .ok (.newarray .int, 2) from by decide +kernel) ?_
  refine g_put K fX1_ok true rfl (fun _ => hi) (fun C T N h => by cases h; rfl) (q := 0) rfl (Nat.le_of_ble_eq_true rfl) trivial (show decode cX1_init 49 = .ok (.putfield 27, 3) from by decide +kernel) ?_
  refine g_aload0 K (show decode cX1_init 52 = .ok (.aload_n 0, 1) from by decide +kernel) rfl rfl ?_
  refine g_bipush K (show decode cX1_init 53 = .ok (.bipush 8, 2) from by decide +kernel) ?_
  refine g_newa K (ti := 0) (N := 8) (Or.inl ⟨rfl, rfl⟩) (by decide +kernel) (by decide +kernel) (Nat.le_of_ble_eq_true rfl) (Nat.le_of_ble_eq_true rfl) (Nat.le_of_ble_eq_true rfl) w_aI (show decode cX1_init 55 = .ok (.newarray .int, 2) from by decide +kernel) ?_
  refine g_put K fX1_ok true rfl (fun _ => hi) (fun C T N h => by cases h; rfl) (q := 0) rfl (Nat.le_of_ble_eq_true rfl) trivial (show decode cX1_init 57 = .ok (.putfield 30, 3) from by decide +kernel) ?_
  refine g_aload0 K (show decode cX1_init 60 = .ok (.aload_n 0, 1) from by decide +kernel) rfl rfl ?_
  refine g_bipush K (show decode cX1_init 61 = .ok (.bipush 50, 2) from by decide +kernel) ?_
  refine g_newa K (ti := 1) (N := 50) (Or.inr ⟨rfl, rfl⟩) (by decide +kernel) (by decide +kernel) (Nat.le_of_ble_eq_true rfl) (Nat.le_of_ble_eq_true rfl) (Nat.le_of_ble_eq_true rfl) w_aB (show decode cX1_init 63 = .ok (.newarray .byte, 2) from by decide +kernel) ?_
  refine g_put K fX1_ok true rfl (fun _ => hi) (fun C T N h => by cases h; rfl) (q := 0) rfl (Nat.le_of_ble_eq_true rfl) trivial (show decode cX1_init 65 = .ok (.putfield 33, 3) from by decide +kernel) ?_
  refine g_aload0 K (show decode cX1_init 68 = .ok (.aload_n 0, 1) from by decide +kernel) rfl rfl ?_
  refine g_bipush K (show decode cX1_init 69 = .ok (.bipush 20, 2) from by decide +kernel) ?_
  refine g_newa K (ti := 0) (N := 20) (Or.inl ⟨rfl, rfl⟩) (by decide +kernel) (by decide +kernel) (Nat.le_of_ble_eq_true rfl) (Nat.le_of_ble_eq_true rfl) (Nat.le_of_ble_eq_true rfl) w_aI (show decode cX1_init 71 = .ok (.newarray .int, 2) from by decide +kernel) ?_
  refine g_put K fX1_ok true rfl (fun _ => hi) (fun C T N h => by cases h; rfl) (q := 0) rfl (Nat.le_of_ble_eq_true rfl) trivial (show decode cX1_init 73 = .ok (.putfield 37, 3) from by decide +kernel) ?_
  refine g_aload0 K (show decode cX1_init 76 = .ok (.aload_n 0, 1) from by decide +kernel) rfl rfl ?_
  refine g_new K (i1 := 40) (i2 := 42) mX2_init rfl tyX2 tyX2_ok fsX2_ok in_X2 (lw_m 1 34 (by decide +kernel)) (lw_m 1 35 (by decide +kernel)) (lw_m 1 3 (by decide +kernel)) (Or.inr (List.mem_of_getElem? (i := 1) rfl)) (lw_m 1 37 (by decide +kernel)) (lw_m 1 38 (by decide +kernel)) rfl (by decide +kernel) (Nat.zero_lt_succ _) ⟨Nat.le_of_ble_eq_true rfl, Nat.le_of_ble_eq_true rfl⟩ (Nat.le_of_ble_eq_true rfl) (Nat.le_of_ble_eq_true rfl) (Nat.le_of_ble_eq_true rfl) (show decode cX1_init 77 = .ok (.new 40, 3) from by decide +kernel) (show decode cX1_init 80 = .ok (.dup, 1) from by decide +kernel) (show decode cX1_init 81 = .ok (.invokespecial 42, 3) from by decide +kernel) (W1 := [.inr (2, [.ref 11, .ref 12, .ref 13, .int (Int32.ofInt 0)]), .inl (0, 50, .inl (fun _ => 0)), .inl (0, 50, .inl (fun _ => 0)), .inl (0, 4, .inl (fun _ => 0))]) rfl ?_
  refine g_put K fX1_ok true rfl (fun _ => hi) (fun C T N h => by cases h; rfl) (q := 0) rfl (Nat.le_of_ble_eq_true rfl) trivial (show decode cX1_init 84 = .ok (.putfield 43, 3) from by decide +kernel) ?_
  refine g_aload0 K (show decode cX1_init 87 = .ok (.aload_n 0, 1) from by decide +kernel) rfl rfl ?_
  refine g_new K (i1 := 40) (i2 := 42) mX2_init rfl tyX2 tyX2_ok fsX2_ok in_X2 (lw_m 1 34 (by decide +kernel)) (lw_m 1 35 (by decide +kernel)) (lw_m 1 3 (by decide +kernel)) (Or.inr (List.mem_of_getElem? (i := 1) rfl)) (lw_m 1 37 (by decide +kernel)) (lw_m 1 38 (by decide +kernel)) rfl (by decide +kernel) (Nat.zero_lt_succ _) ⟨Nat.le_of_ble_eq_true rfl, Nat.le_of_ble_eq_true rfl⟩ (Nat.le_of_ble_eq_true rfl) (Nat.le_of_ble_eq_true rfl) (Nat.le_of_ble_eq_true rfl) (show decode cX1_init 88 = .ok (.new 40, 3) from by decide +kernel) (show decode cX1_init 91 = .ok (.dup, 1) from by decide +kernel) (show decode cX1_init 92 = .ok (.invokespecial 42, 3) from by decide +kernel) (W1 := [.inr (2, [.ref 15, .ref 16, .ref 17, .int (Int32.ofInt 0)]), .inl (0, 50, .inl (fun _ => 0)), .inl (0, 50, .inl (fun _ => 0)), .inl (0, 4, .inl (fun _ => 0))]) rfl ?_
  refine g_put K fX1_ok true rfl (fun _ => hi) (fun C T N h => by cases h; rfl) (q := 0) rfl (Nat.le_of_ble_eq_true rfl) trivial (show decode cX1_init 95 = .ok (.putfield 47, 3) from by decide +kernel) ?_
  refine g_aload0 K (show decode cX1_init 98 = .ok (.aload_n 0, 1) from by decide +kernel) rfl rfl ?_
  refine g_bipush K (show decode cX1_init 99 = .ok (.bipush 7, 2) from by decide +kernel) ?_
  refine g_put K fX1_ok false rfl (fun h => by cases h) (fun C T N h => by cases h; rfl) (q := 0) rfl (Nat.le_of_ble_eq_true rfl) trivial (show decode cX1_init 101 = .ok (.putfield 50, 3) from by decide +kernel) ?_
  refine g_aload0 K (show decode cX1_init 104 = .ok (.aload_n 0, 1) from by decide +kernel) rfl rfl ?_
  refine g_iconst K (show decode cX1_init 105 = .ok (.iconst 0, 1) from by decide +kernel) ?_
  refine g_put K fX1_ok false rfl (fun h => by cases h) (fun C T N h => by cases h; rfl) (q := 0) rfl (Nat.le_of_ble_eq_true rfl) trivial (show decode cX1_init 106 = .ok (.putfield 54, 3) from by decide +kernel) ?_
  refine g_aload0 K (show decode cX1_init 109 = .ok (.aload_n 0, 1) from by decide +kernel) rfl rfl ?_
  refine g_iconst K (show decode cX1_init 110 = .ok (.iconst 0, 1) from by decide +kernel) ?_
  refine g_put K fX1_ok false rfl (fun h => by cases h) (fun C T N h => by cases h; rfl) (q := 0) rfl (Nat.le_of_ble_eq_true rfl) trivial (show decode cX1_init 111 = .ok (.putfield 57, 3) from by decide +kernel) ?_
  refine g_aload0 K (show decode cX1_init 114 = .ok (.aload_n 0, 1) from by decide +kernel) rfl rfl ?_
  refine g_iconst K (show decode cX1_init 115 = .ok (.iconst 1, 1) from by decide +kernel) ?_
  refine g_put K fX1_ok false rfl (fun h => by cases h) (fun C T N h => by cases h; rfl) (q := 0) rfl (Nat.le_of_ble_eq_true rfl) trivial (show decode cX1_init 116 = .ok (.putfield 60, 3) from by decide +kernel) ?_
  refine g_aload0 K (show decode cX1_init 119 = .ok (.aload_n 0, 1) from by decide +kernel) rfl rfl ?_
  refine g_iconst K (show decode cX1_init 120 = .ok (.iconst 0, 1) from by decide +kernel) ?_
  refine g_put K fX1_ok false rfl (fun h => by cases h) (fun C T N h => by cases h; rfl) (q := 0) rfl (Nat.le_of_ble_eq_true rfl) trivial (show decode cX1_init 121 = .ok (.putfield 63, 3) from by decide +kernel) ?_
  refine g_aload0 K (show decode cX1_init 124 = .ok (.aload_n 0, 1) from by decide +kernel) rfl rfl ?_
  refine g_iconst K (show decode cX1_init 125 = .ok (.iconst 0, 1) from by decide +kernel) ?_
  refine g_put K fX1_ok false rfl (fun h => by cases h) (fun C T N h => by cases h; rfl) (q := 0) rfl (Nat.le_of_ble_eq_true rfl) trivial (show decode cX1_init 126 = .ok (.putfield 66, 3) from by decide +kernel) ?_
  exact fun hB z1 hz => hret 129 _ z1 (show decode cX1_init 129 = .ok (.return_, 1) from by decide +kernel) hB.1 hz
def IX3 : XW := [.inr (3, [.ref 1, .ref 5, .int (Int32.ofInt 0), .int (Int32.ofInt 0), .retAddr 3]), .inr (2, [.ref 2, .ref 3, .ref 4, .int (Int32.ofInt 0)]), .inl (0, 50, .inl (fun _ => 0)), .inl (0, 50, .inl (fun _ => 0)), .inl (0, 4, .inl (fun _ => 0)), .inl (1, 50, .inl (fun _ => 0))]
theorem fsX3_ok : ∀ j, j < 5 → defaultValue (tyX3 j) = vp_V [.null, .null, .int 0, .int 0, .null] j := by decide +kernel
theorem mX3_init : gCT 2 5 158 yX3_init cX3_init 3 [.null, .null, .int 0, .int 0, .null] IX3 := by
  refine gmet (by decide +kernel) rfl (fun z => rfl) (fun v hv => ?_) (fun {p l e s m args below meth c D t2 L xs A Q h0} K hi hret => ?_)
  · simp only [List.mem_cons, List.not_mem_nil, or_false] at hv
    rcases hv with rfl | rfl | rfl | rfl | rfl <;> trivial
  refine g_aload0 K (show decode cX3_init 0 = .ok (.aload_n 0, 1) from by decide +kernel) rfl rfl ?_
  refine g_obj K (lw_m 2 49 (by decide +kernel)) w_oi w_oc ⟨Nat.le_of_ble_eq_true rfl, Nat.le_of_ble_eq_true rfl⟩ (show decode cX3_init 1 = .ok (.invokespecial 3, 3) from by decide +kernel) ?_
  refine g_aload0 K (show decode cX3_init 4 = .ok (.aload_n 0, 1) from by decide +kernel) rfl rfl ?_
  refine g_new K (i1 := 9) (i2 := 11) mX2_init rfl tyX2 tyX2_ok fsX2_ok in_X2 (lw_m 2 50 (by decide +kernel)) (lw_m 1 35 (by decide +kernel)) (lw_m 1 3 (by decide +kernel)) (Or.inr (List.mem_of_getElem? (i := 9) rfl)) (lw_m 1 37 (by decide +kernel)) (lw_m 1 38 (by decide +kernel)) rfl (by decide +kernel) (Nat.zero_lt_succ _) ⟨Nat.le_of_ble_eq_true rfl, Nat.le_of_ble_eq_true rfl⟩ (Nat.le_of_ble_eq_true rfl) (Nat.le_of_ble_eq_true rfl) (Nat.le_of_ble_eq_true rfl) (show decode cX3_init 5 = .ok (.new 9, 3) from by decide +kernel) (show decode cX3_init 8 = .ok (.dup, 1) from by decide +kernel) (show decode cX3_init 9 = .ok (.invokespecial 11, 3) from by decide +kernel) (W1 := [.inr (2, [.ref 2, .ref 3, .ref 4, .int (Int32.ofInt 0)]), .inl (0, 50, .inl (fun _ => 0)), .inl (0, 50, .inl (fun _ => 0)), .inl (0, 4, .inl (fun _ => 0))]) rfl ?_
  refine g_put K fX3_ok true rfl (fun _ => hi) (fun C T N h => by cases h; rfl) (q := 0) rfl (Nat.le_of_ble_eq_true rfl) trivial (show decode cX3_init 12 = .ok (.putfield 12, 3) from by decide +kernel) ?_
  refine g_aload0 K (show decode cX3_init 15 = .ok (.aload_n 0, 1) from by decide +kernel) rfl rfl ?_
  refine g_bipush K (show decode cX3_init 16 = .ok (.bipush 50, 2) from by decide +kernel) ?_
  refine g_newa K (ti := 1) (N := 50) (Or.inr ⟨rfl, rfl⟩) (by decide +kernel) (by decide +kernel) (Nat.le_of_ble_eq_true rfl) (Nat.le_of_ble_eq_true rfl) (Nat.le_of_ble_eq_true rfl) w_aB (show decode cX3_init 18 = .ok (.newarray .byte, 2) from by decide +kernel) ?_
  refine g_put K fX3_ok true rfl (fun _ => hi) (fun C T N h => by cases h; rfl) (q := 0) rfl (Nat.le_of_ble_eq_true rfl) trivial (show decode cX3_init 20 = .ok (.putfield 18, 3) from by decide +kernel) ?_
  refine g_aload0 K (show decode cX3_init 23 = .ok (.aload_n 0, 1) from by decide +kernel) rfl rfl ?_
  refine g_iconst K (show decode cX3_init 24 = .ok (.iconst 0, 1) from by decide +kernel) ?_
  refine g_put K fX3_ok false rfl (fun h => by cases h) (fun C T N h => by cases h; rfl) (q := 0) rfl (Nat.le_of_ble_eq_true rfl) trivial (show decode cX3_init 25 = .ok (.putfield 22, 3) from by decide +kernel) ?_
  refine g_aload0 K (show decode cX3_init 28 = .ok (.aload_n 0, 1) from by decide +kernel) rfl rfl ?_
  refine g_iconst K (show decode cX3_init 29 = .ok (.iconst 0, 1) from by decide +kernel) ?_
  refine g_put K fX3_ok false rfl (fun h => by cases h) (fun C T N h => by cases h; rfl) (q := 0) rfl (Nat.le_of_ble_eq_true rfl) trivial (show decode cX3_init 30 = .ok (.putfield 26, 3) from by decide +kernel) ?_
  refine g_aload0 K (show decode cX3_init 33 = .ok (.aload_n 0, 1) from by decide +kernel) rfl rfl ?_
  refine g_ldcS K (List.mem_of_getElem? (i := 0) rfl) (show decode cX3_init 34 = .ok (.ldc 29, 2) from by decide +kernel) ?_
  refine g_put K fX3_ok false rfl (fun h => by cases h) (fun C T N h => by cases h; rfl) (q := 0) rfl (Nat.le_of_ble_eq_true rfl) trivial (show decode cX3_init 36 = .ok (.putfield 31, 3) from by decide +kernel) ?_
  exact fun hB z1 hz => hret 39 _ z1 (show decode cX3_init 39 = .ok (.return_, 1) from by decide +kernel) hB.1 hz
