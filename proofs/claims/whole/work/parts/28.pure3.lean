/-! ===== bars ===== -/
noncomputable def gat (l s : Int32) : Int64 := cif (¬ l = 0 ∧ ¬ s = 0) 0 l.toInt64
noncomputable def vraw (d : Nat → Int32) (kind m l s k : Int32) : Int64 := cif (kind = 1) (l.toInt64 + m.toInt64) (cif (kind = 2) (l.toInt64 + s.toInt64) (cif (kind = 3) (gat l s) (cif (kind = 4) (l.toInt64 + s.toInt64 + m.toInt64) (cif (kind = 5) (cif (gat l s < s.toInt64) s.toInt64 (gat l s)) (cif (kind = 6) (l.toInt64 + m.toInt64 + (addsV d l s m k).toInt64) l.toInt64)))))
noncomputable def crd (N : Int32) (v : Int64) : Int32 := cif (v - v / N.toInt64 * N.toInt64 < 0) (v - v / N.toInt64 * N.toInt64 + N.toInt64).toInt32 (v - v / N.toInt64 * N.toInt64).toInt32
/-- the next note of singer i, by l and s -/
noncomputable def nxt (d : Nat → Int32) (i : Nat) (l s : Int32) : Int32 := crd (d 1) (vraw d (d (8 + 8 * i + 0)) (d (8 + 8 * i + 1)) l s (nI i))
theorem lrem_i {v : Int64} {n : Nat} (h0 : 0 < n) (hn : n < 2 ^ 31) : (v - v / (nI n).toInt64 * (nI n).toInt64).toInt = v.toInt.tmod n := by
  have eN : (nI n).toInt64.toInt = n := by rw [Int32.toInt_toInt64, nI_toInt hn]
  have hv := fb_rngL v
  have hq : (v / (nI n).toInt64).toInt = v.toInt.tdiv n := by
    rw [Int64.toInt_div, eN]
    have hq2 : -9223372036854775808 ≤ v.toInt.tdiv n ∧ v.toInt.tdiv n < 9223372036854775808 := by
      rcases Int.le_total 0 v.toInt with h | h
      · have h1 := Int.tdiv_le_self (n : Int) h
        have h2 := Int.tdiv_nonneg h (show (0 : Int) ≤ n by omega)
        omega
      · have h1 := Int.tdiv_le_self (a := -v.toInt) (n : Int) (by omega)
        have h2 := Int.tdiv_nonneg (a := -v.toInt) (b := (n : Int)) (by omega) (by omega)
        rw [Int.neg_tdiv] at h1 h2
        omega
    exact fb_bmodL hq2.1 hq2.2
  have hm := Int.mul_tdiv_add_tmod v.toInt n
  have hb := tmod_bounds (a := v.toInt) (M := n) (by omega)
  have hnn : 0 ≤ v.toInt → 0 ≤ v.toInt.tmod n := fun h => Int.tmod_nonneg _ h
  have hnp : v.toInt ≤ 0 → v.toInt.tmod n ≤ 0 := fun h => by
    have h2 := Int.tmod_nonneg (a := -v.toInt) (n : Int) (by omega)
    rw [Int.neg_tmod] at h2
    omega
  have hmul : (v / (nI n).toInt64 * (nI n).toInt64).toInt = v.toInt.tdiv n * n := by
    rw [fb_mulL] <;> rw [hq, eN]
    · rw [Int.mul_comm]
      rcases Int.le_total 0 v.toInt with h | h
      · have := hnn h
        omega
      · have := hnp h
        omega
    · rw [Int.mul_comm]
      rcases Int.le_total 0 v.toInt with h | h
      · have := hnn h
        omega
      · have := hnp h
        omega
  rw [fb_subL] <;> rw [hmul]
  · rw [Int.mul_comm]; omega
  · rw [Int.mul_comm]; omega
  · rw [Int.mul_comm]; omega
theorem l2i_n {x : Int64} {j : Nat} (h : x.toInt = (j : Int)) (hj : j < 2 ^ 31) : x.toInt32 = nI j := by
  have e : x = lN j := Int64.toInt_inj.mp (by rw [h, pk_lT (by omega)])
  rw [e, lN_i]
/-- what is counted round is a note -/
theorem crd_val {n : Nat} (h0 : 0 < n) (hn : n < 2 ^ 30) (v : Int64) : crd (nI n) v = nI (v.toInt % (n : Int)).toNat ∧ (v.toInt % (n : Int)).toNat < n := by
  have hr := lrem_i (v := v) h0 (by omega : n < 2 ^ 31)
  have hb := tmod_bounds (a := v.toInt) (M := n) (by omega)
  have he1 := Int.emod_nonneg v.toInt (show (n : Int) ≠ 0 by omega)
  have he2 := Int.emod_lt_of_pos v.toInt (show (0 : Int) < n by omega)
  have eN : (nI n).toInt64.toInt = n := by rw [Int32.toInt_toInt64, nI_toInt (by omega)]
  have hdm := Int.mul_tdiv_add_tmod v.toInt n
  have hem := Int.mul_ediv_add_emod v.toInt n
  have hcon : v.toInt.tmod n = (v.toInt % (n : Int)) ∨ (v.toInt.tmod n < 0 ∧ v.toInt.tmod n + n = (v.toInt % (n : Int))) := by
    rcases Int.le_total 0 v.toInt with h | h
    · left
      exact Int.tmod_eq_emod_of_nonneg h
    · rw [Int.tmod_eq_emod]
      by_cases hd : (n : Int) ∣ v.toInt
      · left
        rw [if_pos (Or.inr hd)]
        omega
      · by_cases h0 : 0 ≤ v.toInt
        · left
          rw [if_pos (Or.inl h0)]
          omega
        · right
          rw [if_neg (by intro q; exact q.elim h0 hd)]
          have : (n : Int).natAbs = n := rfl
          constructor <;> omega
  refine ⟨?_, by omega⟩
  unfold crd
  by_cases g : v - v / (nI n).toInt64 * (nI n).toInt64 < 0
  · rw [cif_t g]
    rw [fa_lt64, hr] at g
    have g : v.toInt.tmod n < 0 := g
    refine l2i_n ?_ (by omega)
    rw [fb_addL] <;> rw [hr, eN] <;> omega
  · rw [cif_f g]
    rw [fa_lt64, hr] at g
    have g : ¬ v.toInt.tmod n < 0 := g
    refine l2i_n ?_ (by omega)
    rw [hr]
    omega
theorem crd_bd {n : Nat} (h0 : 0 < n) (hn : n < 2 ^ 30) (v : Int64) : bd (crd (nI n) v) n := ⟨_, (crd_val h0 hn v).2, (crd_val h0 hn v).1⟩
def fiN (d : Nat → Int32) (s : Nat) : Nat := (d (8 + 8 * s + 3)).toNatClampNeg
def seN (d : Nat → Int32) (s : Nat) : Nat := (d (8 + 8 * s + 4)).toNatClampNeg
/-- a bar goes by over a row -/
noncomputable def stp (d : Nat → Int32) (k : Nat) (r : Nat → Int32) : Nat → Int32 := fun s => if s < k then nxt d s (r (fiN d s)) (r (seN d s)) else r s
/-- n bars -/
noncomputable def itr (d : Nat → Int32) (k : Nat) : Nat → (Nat → Int32) → (Nat → Int32)
  | 0, r => r
  | n + 1, r => stp d k (itr d k n r)
/-- the notes of now, over a row -/
def nts (d : Nat → Int32) (k : Nat) (r : Nat → Int32) : Nat → Int32 := fun s => if s < k then d (8 + 8 * s + 2) else r s
/-- a row becomes the notes of now -/
def endD (d : Nat → Int32) (r : Nat → Int32) (k : Nat) : Nat → Int32 := fun j => if 8 ≤ j ∧ (j - 8) / 8 < k ∧ (j - 8) % 8 = 2 then r ((j - 8) / 8) else d j
/-- the number of a state -/
def numF (N : Int32) (r : Nat → Int32) : Nat → Int32 → Int32
  | 0, v => v
  | j + 1, v => numF N r j (N * v + r j)
noncomputable def wsum (d : Nat → Int32) (r : Nat → Int32) : Nat → Int32
  | 0 => 0
  | s + 1 => wsum d r s + worthV d (r s) (nI s)
