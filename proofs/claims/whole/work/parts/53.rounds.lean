/-! ===== the class: rounds: where a state was ===== -/
def RD (A : XA) (F : Nat → Int32) : XW := [.inr (4, [.int (F 50), .int (F 51), .int (F 52), .int (F 53), .ref 1, .ref 2, .ref 3, .ref 4, .ref 5, .int (F 54)]), .inl (0, 8, .inl (A 1)), .inl (0, 8, .inl (A 2)), .inl (0, 1024, .inl (A 3)), .inl (0, 1024, .inl (A 4)), .inl (0, 1024, .inl (A 5))]
def RDD : List DC := [.inr (.inr (4, [(1, 50), (1, 51), (1, 52), (1, 53), (0, 1), (0, 2), (0, 3), (0, 4), (0, 5), (1, 54)])), .inl (0, 8), .inl (0, 8), .inl (0, 1024), .inl (0, 1024), .inl (0, 1024)]
theorem RD_dn (A : XA) (F : Nat → Int32) : RD A F = dn A F 0 RDD := rfl
def hx (x : Int32) : Int32 := ((x * -1640531535).toUInt32 >>> ((22 : Int32).toUInt32 &&& Int32.toUInt32 31)).toInt32
theorem hx_n (x : Int32) : ∃ j : Nat, j < 1024 ∧ hx x = nI j := by
  refine ⟨((x * -1640531535).toUInt32.toNat >>> 22), ?_, ?_⟩
  · rw [Nat.shiftRight_eq_div_pow]
    have := (x * -1640531535).toUInt32.toNat_lt
    omega
  · have e : ((x * -1640531535).toUInt32 >>> ((22 : Int32).toUInt32 &&& Int32.toUInt32 31)).toNat = (x * -1640531535).toUInt32.toNat >>> 22 := by
      rw [UInt32.toNat_shiftRight]
      rfl
    unfold hx
    rw [← e]
    generalize (x * -1640531535).toUInt32 >>> ((22 : Int32).toUInt32 &&& Int32.toUInt32 31) = u
    show u.toInt32 = (UInt32.ofNat u.toNat).toInt32
    rw [UInt32.ofNat_toNat]
/-- the slot o on from where x belongs -/
def sl (x : Int32) (o : Nat) : Nat := ((hx x).toNatClampNeg + o) % 1024
theorem sl_lt (x : Int32) (o : Nat) : sl x o < 1024 := Nat.mod_lt _ (by decide)
theorem sl_0 (x : Int32) : hx x = nI (sl x 0) := by
  obtain ⟨j, hj, e⟩ := hx_n x
  unfold sl
  rw [e, cl (by omega), Nat.add_zero, Nat.mod_eq_of_lt hj]
theorem nI_and {a : Nat} (ha : a < 2 ^ 31) : nI a &&& 1023 = nI (a % 1024) := by
  apply Int32.toBitVec_inj.mp
  apply BitVec.eq_of_toNat_eq
  show (nI a &&& 1023).toBitVec.toNat = (nI (a % 1024)).toBitVec.toNat
  rw [Int32.toBitVec_and, BitVec.toNat_and]
  show (a % 2 ^ 32) &&& 1023 = (a % 1024) % 2 ^ 32
  rw [show (1023 : Nat) = 2 ^ 10 - 1 from rfl, Nat.and_two_pow_sub_one_eq_mod]
  omega
theorem sl_s (x : Int32) (o : Nat) : (nI (sl x o) + 1) &&& 1023 = nI (sl x (o + 1)) := by
  have := sl_lt x o
  rw [nI_1, nI_and (by omega)]
  unfold sl
  congr 1
  omega
/-- the slots of this search hold the states of the first i bars -/
def HB (u b p : Nat → Int32) (S : Int32) (x : Nat → Int32) (i : Nat) : Prop := (∀ q, q < 1024 → p q = S → ∃ j, j < i ∧ u q = x j ∧ b q = nI j) ∧ (∀ j, j < i → ∃ o, o < 1024 ∧ p (sl (x j) o) = S ∧ u (sl (x j) o) = x j ∧ ∀ o', o' < o → p (sl (x j) o') = S) ∧ cntP (fun q => ¬ p q = S) 1024 = 1024 - i
theorem HB_0 {u b p : Nat → Int32} {S : Int32} {x : Nat → Int32} (h : ∀ q, q < 1024 → ¬ p q = S) : HB u b p S x 0 := ⟨fun q hq e => absurd e (h q hq), fun j hj => absurd hj (Nat.not_lt_zero _), cntP_full h⟩
theorem HB_z {u b p : Nat → Int32} {S : Int32} {x : Nat → Int32} {i : Nat} (h : HB u b p S x i) (hi : i < 1024) (v : Int32) : ∃ oz, oz < 1024 ∧ ¬ p (sl v oz) = S := by
  obtain ⟨q, hq, hz⟩ := cntP_pos (p := fun q => ¬ p q = S) (N := 1024) (by rw [h.2.2]; omega)
  refine ⟨(q + 1024 - (hx v).toNatClampNeg % 1024) % 1024, Nat.mod_lt _ (by decide), ?_⟩
  have e : sl v ((q + 1024 - (hx v).toNatClampNeg % 1024) % 1024) = q := by
    unfold sl
    omega
  rw [e]
  exact hz
theorem cntP_one {p p' : Nat → Prop} {Q : Nat} (h1 : p Q) (h2 : ¬ p' Q) (h : ∀ q, q ≠ Q → (p' q ↔ p q)) : ∀ {N : Nat}, Q < N → cntP p' N + 1 = cntP p N
  | 0, hQ => absurd hQ (Nat.not_lt_zero _)
  | N + 1, hQ => by
    show cif (p' N) (cntP p' N + 1) (cntP p' N) + 1 = cif (p N) (cntP p N + 1) (cntP p N)
    by_cases e : Q = N
    · subst e
      have ih : cntP p' Q = cntP p Q := cntP_cg (fun q hq => h q (by omega))
      rw [cif_t h1, cif_f h2, ih]
    · have ih := cntP_one h1 h2 h (N := N) (by omega)
      by_cases g : p N
      · rw [cif_t g, cif_t ((h N (Ne.symm e)).mpr g), ih]
      · rw [cif_f g, cif_f (fun q => g ((h N (Ne.symm e)).mp q)), ih]
theorem HB_new {u b p : Nat → Int32} {S : Int32} {x : Nat → Int32} {i o : Nat} (h : HB u b p S x i) (ho : o < 1024) (hi : i < 1024) (hb : ∀ o', o' < o → p (sl (x i) o') = S ∧ ¬ u (sl (x i) o') = x i) (hz : ¬ p (sl (x i) o) = S) : (∀ j, j < i → ¬ x j = x i) ∧ HB (upd u (sl (x i) o) (x i)) (upd b (sl (x i) o) (nI i)) (upd p (sl (x i) o) S) S x (i + 1) := by
  obtain ⟨h1, h2, h3⟩ := h
  have hQ := sl_lt (x i) o
  have hp : ∀ q, p q = S → upd p (sl (x i) o) S q = S := fun q e => by
    by_cases g : q = sl (x i) o
    · rw [g, pk_us]
    · rw [pk_un g, e]
  refine ⟨fun j hj e => ?_, fun q hq e => ?_, fun j hj => ?_, ?_⟩
  · obtain ⟨oj, hoj, ej, eu, hbj⟩ := h2 j hj
    rw [e] at ej eu hbj
    rcases Nat.lt_trichotomy o oj with q | q | q
    · exact hz (hbj o q)
    · subst q
      exact hz ej
    · exact (hb oj q).2 eu
  · by_cases g : q = sl (x i) o
    · rw [g, pk_us, pk_us]
      exact ⟨i, by omega, rfl, rfl⟩
    · rw [pk_un g] at e
      rw [pk_un g, pk_un g]
      obtain ⟨j, hj, q2⟩ := h1 q hq e
      exact ⟨j, by omega, q2⟩
  · by_cases g : j = i
    · rw [g]
      exact ⟨o, ho, pk_us, pk_us, fun o' ho' => hp _ (hb o' ho').1⟩
    · obtain ⟨oj, hoj, ej, eu, hbj⟩ := h2 j (by omega)
      refine ⟨oj, hoj, hp _ ej, ?_, fun o' ho' => hp _ (hbj o' ho')⟩
      have g2 : sl (x j) oj ≠ sl (x i) o := fun q => hz (by rw [← q]; exact ej)
      rw [pk_un g2, eu]
  · have := cntP_one (p := fun q => ¬ p q = S) (p' := fun q => ¬ upd p (sl (x i) o) S q = S) (Q := sl (x i) o) hz (fun q => q pk_us) (fun q hq => by show ¬ upd p (sl (x i) o) S q = S ↔ ¬ p q = S; rw [pk_un hq]) (N := 1024) hQ
    omega
def sX4_barOf : XS := fun as w post => ∃ (A : XA) (F : Nat → Int32) (x : Nat → Int32) (v : Int32) (i : Nat), as = [.ref 0, .int v, .int (nI i)] ∧ w = RD A F ∧ v = x i ∧ i ≤ 600 ∧ HB (A 3) (A 4) (A 5) (F 54) x i ∧
  (∀ j, j < i → x j = x i → post (some (.int (nI j))) (RD A F)) ∧ ((∀ j, j < i → ¬ x j = x i) → ∀ A', sm [3, 4, 5] A' A → HB (A' 3) (A' 4) (A' 5) (F 54) x (i + 1) → (∀ q, A' 5 q = A 5 q ∨ A' 5 q = F 54) → post (some (.int (nI i))) (RD A' F))
set_option maxRecDepth 10000 in
set_option maxHeartbeats 1000000 in
theorem mX4_barOf (d : Nat) (hd : 0 ≤ d) : xCT d yX4_barOf cX4_barOf 5 (some .int) sX4_barOf := by
  refine xmet (tb := tX4_barOf) (fl := fX4) (kc := nX4) (gs := g0) (cl := xlk []) (by decide) tX4_barOf_ok fX4_ok nX4_ok g0_ok xg_nil ?_
  rintro L xs as w Qp ⟨A, F, x, v, i, rfl, rfl, rfl, hi, hH, h1, h2⟩
  obtain ⟨oz, hoz, hz⟩ := HB_z hH (by omega) (x i)
  refine ⟨Nat.le_of_ble_eq_true rfl, 400, xlk [(11, 5)], fun m pc ls st w => pc = 11 ∧ st = [] ∧ ∃ o y, o ≤ oz ∧ m = oz - o ∧ y = nI (sl (x i) o) ∧ ls = [(0, .ref 0), (1, .int (x i)), (2, .int (nI i)), (3, .int y), (4, .int (nI o))] ∧ w = RD A F ∧ (∀ o', o' < o → A 5 (sl (x i) o') = F 54 ∧ ¬ A 3 (sl (x i) o') = x i), ?_, ?_⟩
  · exact ⟨oz, rfl, rfl, 0, hx (x i), Nat.zero_le _, rfl, sl_0 _, rfl, rfl, fun o' ho' => absurd ho' (Nat.not_lt_zero _)⟩
  · rintro m pc m9 ls st w hc ⟨rfl, rfl, o, y, ho, rfl, hy, rfl, rfl, hb⟩
    have hsl := sl_lt (x i) o
    have iy : vp_in y 1024 := by rw [hy]; exact vp_in_nI hsl (by decide)
    have ey : y.toNatClampNeg = sl (x i) o := by rw [hy, cl (by omega)]
    refine And.intro (fun g => ?_) (fun g => ?_)
    · have := ge_n (x := 1024) (k := 1024) rfl (by omega) (by omega) g
      omega
    · refine And.intro iy ?_
      refine And.intro (fun g2 => ?_) (fun g2 => ?_)
      · have g2 : ¬ A 5 y.toNatClampNeg = F 54 := g2
        rw [ey] at g2
        obtain ⟨n1, n2⟩ := HB_new hH (show o < 1024 by omega) (by omega) hb g2
        refine And.intro iy (And.intro iy (And.intro iy ?_))
        have h3 := h2 n1 (aset (aset (aset A 5 (upd (A 5) (sl (x i) o) (F 54))) 3 (upd (A 3) (sl (x i) o) (x i))) 4 (upd (A 4) (sl (x i) o) (nI i))) (sm_tr (sm_aset (q := 5) rfl) (sm_tr (sm_aset (q := 3) rfl) (sm_aset rfl))) n2 (fun q => ?_)
        · rw [← ey] at h3
          exact h3
        · show upd (A 5) (sl (x i) o) (F 54) q = A 5 q ∨ upd (A 5) (sl (x i) o) (F 54) q = F 54
          by_cases e : q = sl (x i) o
          · rw [e, pk_us]
            exact Or.inr rfl
          · rw [pk_un e]
            exact Or.inl rfl
      · have g2 : A 5 y.toNatClampNeg = F 54 := Classical.byContradiction g2
        rw [ey] at g2
        refine And.intro iy ?_
        refine And.intro (fun g3 => ?_) (fun g3 => ?_)
        · have g3 : ¬ A 3 y.toNatClampNeg = x i := g3
          rw [ey] at g3
          have hne : o ≠ oz := fun q => hz (by rw [← q]; exact g2)
          refine ⟨oz - (o + 1), by omega, rfl, rfl, o + 1, _, by omega, rfl, ?_, by rw [← nI_1]; rfl, rfl, fun o' ho' => ?_⟩
          · rw [hy]
            exact sl_s _ _
          · by_cases q : o' = o
            · rw [q]
              exact ⟨g2, g3⟩
            · exact hb o' (by omega)
        · have g3 : A 3 y.toNatClampNeg = x i := Classical.byContradiction g3
          rw [ey] at g3
          refine And.intro iy ?_
          obtain ⟨j, hj, e1, e2⟩ := hH.1 _ hsl g2
          have h3 := h1 j hj (e1.symm.trans g3)
          rw [← e2, ← ey] at h3
          exact h3
