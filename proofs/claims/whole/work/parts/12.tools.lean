/-! ===== tools: branches, bounded ints, worlds of the reference ===== -/
theorem x10 : ¬ (1 : Int32) = 0 := by decide
theorem xc_ne1 : xcond .ne 1 0 := x10
theorem xc_ne0 : ¬ xcond .ne 0 0 := fun h => h rfl
theorem xc_eq1 : ¬ xcond .eq 1 0 := x10
theorem xc_eq0 : xcond .eq 0 0 := rfl
def aset (A : Nat → Nat → Int32) (p : Nat) (f : Nat → Int32) : Nat → Nat → Int32 := fun q => bif Nat.beq q p then f else A q
def fset (F : Nat → Int32) (p : Nat) (x : Int32) : Nat → Int32 := fun q => bif Nat.beq q p then x else F q
theorem aset_s (A : Nat → Nat → Int32) (p : Nat) (f : Nat → Int32) : aset A p f p = f := by unfold aset; rw [Nat.beq_refl]; rfl
theorem aset_n {A : Nat → Nat → Int32} {p q : Nat} {f : Nat → Int32} (h : q ≠ p) : aset A p f q = A q := by
  unfold aset
  have e : Nat.beq q p = false := by
    cases h2 : Nat.beq q p with
    | false => rfl
    | true => exact absurd (Nat.eq_of_beq_eq_true h2) h
  rw [e]
  rfl
theorem fset_s (F : Nat → Int32) (p : Nat) (f : Int32) : fset F p f p = f := by unfold fset; rw [Nat.beq_refl]; rfl
theorem fset_n {F : Nat → Int32} {p q : Nat} {f : Int32} (h : q ≠ p) : fset F p f q = F q := by
  unfold fset
  have e : Nat.beq q p = false := by
    cases h2 : Nat.beq q p with
    | false => rfl
    | true => exact absurd (Nat.eq_of_beq_eq_true h2) h
  rw [e]
  rfl
theorem aset_aset (A : Nat → Nat → Int32) (p : Nat) (f g : Nat → Int32) : aset (aset A p f) p g = aset A p g := by
  funext q
  unfold aset
  cases Nat.beq q p <;> rfl
theorem aset_eta (A : Nat → Nat → Int32) (p : Nat) : aset A p (A p) = A := by
  funext q
  unfold aset
  cases h : Nat.beq q p with
  | true => rw [Nat.eq_of_beq_eq_true h]; rfl
  | false => rfl
/-- the reference's world: 0 the object; 1 d 2 kept 3 found 4 names 5 a 6 b 7 then 8 was 9 placed 10 behind 11 reached 12 met 13 sung 14 traced 15 bitsOf 16 sizeOf 17 number 18 lifted -/
def LM (A : Nat → Nat → Int32) (F : Nat → Int32) : XW := [.inr (10, [.ref 1, .ref 2, .int (F 2), .ref 3, .int (F 4), .int (F 5), .int (F 6), .int (F 7), .int (F 8), .int (F 9), .ref 4, .ref 5, .ref 6, .ref 7, .ref 8, .ref 9, .int (F 16), .int (F 17), .ref 10, .ref 11, .ref 12, .int (F 21), .ref 13, .ref 14, .int (F 24), .int (F 25), .ref 15, .ref 16, .ref 17, .ref 18]),
  .inl (0, 250, .inl (A 1)), .inl (0, 250, .inl (A 2)), .inl (0, 6, .inl (A 3)), .inl (0, 4, .inl (A 4)), .inl (0, 8, .inl (A 5)), .inl (0, 8, .inl (A 6)), .inl (0, 8, .inl (A 7)), .inl (0, 601, .inl (A 8)), .inl (0, 2048, .inl (A 9)), .inl (0, 3000, .inl (A 10)), .inl (0, 3000, .inl (A 11)), .inl (0, 3000, .inl (A 12)), .inl (0, 1200, .inl (A 13)), .inl (0, 40, .inl (A 14)), .inl (0, 4, .inl (A 15)), .inl (0, 4, .inl (A 16)), .inl (0, 160, .inl (A 17)), .inl (0, 40, .inl (A 18))]
theorem bx0 {n : Nat} (h : n < 2 ^ 31) {i : Nat} (hi : i < n) : vp_in (nI i) n := vp_in_nI hi h
/-- a whole number in a range -/
theorem rg {a : Int32} {c : Nat} (hc : c < 2 ^ 31) (h1 : 0 ≤ a) (h2 : a ≤ nI c) : ∃ i : Nat, i ≤ c ∧ a = nI i :=
  nI_of2 (nI_toInt hc) (fun h => by rw [fa_lt] at h; rw [fa_le] at h1; omega) h2
theorem rgk {a : Int32} {k : Nat} (hk : k < 2 ^ 31) (h1 : 0 ≤ a) (h2 : a ≤ nI k - 1) : ∃ i : Nat, i < k ∧ a = nI i := by
  have e : (nI k - 1).toInt = (k : Int) - 1 := by
    rw [show (1 : Int32) = nI 1 from rfl, Int32.toInt_sub, nI_toInt hk, nI_toInt (by decide)]
    rw [Int.bmod_eq_of_le] <;> omega
  obtain ⟨j, hj, rfl⟩ := nI_of (x := a) (fun h => by rw [fa_lt] at h; rw [fa_le] at h1; omega)
  refine ⟨j, ?_, rfl⟩
  rw [fa_le, e, nI_toInt hj] at h2
  omega
theorem rgk' {i k : Nat} (hk : k < 2 ^ 31) (hi : i < k) : 0 ≤ nI i ∧ nI i ≤ nI k - 1 := by
  have e : (nI k - 1).toInt = (k : Int) - 1 := by
    rw [show (1 : Int32) = nI 1 from rfl, Int32.toInt_sub, nI_toInt hk, nI_toInt (by decide)]
    rw [Int.bmod_eq_of_le] <;> omega
  refine ⟨?_, ?_⟩
  · rw [fa_le, nI_toInt (by omega)]; show (0 : Int) ≤ _; omega
  · rw [fa_le, e, nI_toInt (by omega)]; omega
theorem vl (i n : Nat) (h : Nat.ble (i + 1) n = true) (h2 : Nat.ble n 100000 = true) : vp_in (nI i) n := vp_in_nI (Nat.le_of_ble_eq_true h) (Nat.lt_of_le_of_lt (Nat.le_of_ble_eq_true h2) (by decide))
theorem xrm_ok (d : Nat) : 1 ≤ (xrm (d + 1)).frames ∧ 40 ≤ (xrm (d + 1)).locals := ⟨Nat.succ_le_succ (Nat.zero_le _), by show 40 ≤ 40 * (d + 1); omega⟩
def fn0 : XF := fun _ => none
theorem fn0_ok {own : String} : xFok own fn0 := fun _ _ _ _ _ h => by cases h
def kn0 : XK := fun _ => none
theorem kn0_ok {own : String} : xKok own kn0 := fun _ => ⟨fun _ h => (by cases h), fun _ h => (by cases h), fun _ h => (by cases h)⟩
def xor2 (S T : XS) : XS := fun as w post => S as w post ∨ T as w post
theorem xCT_or {d : Nat} {y : MethodName} {b : ByteArray} {nL : Nat} {rt : Option FieldType} {S T : XS} (h1 : xCT d y b nL rt S) (h2 : xCT d y b nL rt T) : xCT d y b nL rt (xor2 S T) := fun l D z L xs sz as w Qp h => h.elim (h1 l D z L xs sz as w Qp) (h2 l D z L xs sz as w Qp)
noncomputable def cif {α : Type} (P : Prop) (a b : α) : α := @ite α P (Classical.propDecidable P) a b
theorem cif_t {α : Type} {P : Prop} {a b : α} (h : P) : cif P a b = a := if_pos h
theorem cif_f {α : Type} {P : Prop} {a b : α} (h : ¬ P) : cif P a b = b := if_neg h
