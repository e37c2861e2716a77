/-! ===== texts: how they are read, and what they give ===== -/
def hr (b : Nat → Int32) (n p : Nat) : Int32 := if p < n then b p else -1
def isdg (x : Int32) : Prop := 48 ≤ x ∧ x ≤ 57
/-- up to c digits from place p on -/
noncomputable def numv (b : Nat → Int32) (n : Nat) : Nat → Nat → Int32 → Nat × Int32
  | 0, p, v => (p, v)
  | c + 1, p, v => cif (isdg (hr b n p)) (numv b n c (p + 1) (10 * v + hr b n p - 48)) (p, v)
noncomputable def nmi (u : Nat) (x : Int32) : Nat := cif (u = 1) (cif (x = 110) 0 (cif (x = 107) 1 9)) (cif (x = 108) 0 (cif (x = 115) 1 (cif (x = 109) 2 (cif (x = 107) 3 9))))
abbrev PT : Type := Bool × Nat × List Int32
def cat2 (r : PT) (k : Nat → PT) : PT := match r with
  | (true, q, ps) => (match k q with
    | (true, q2, qs) => (true, q2, ps ++ qs)
    | (false, q2, _) => (false, q2, []))
  | (false, q, _) => (false, q, [])
/-- what is read from place p on, o being open: 0 T, 1 A, 2 B, 3 S, 4 P, 5 Q; 6 to 9 what may go on behind 0, 1, 3, 4 -/
noncomputable def PP (b : Nat → Int32) (n u : Nat) : Nat → Nat → Nat → Nat → PT
  | 0, _, p, _ => (false, p, [])
  | f + 1, c, p, o => match c with
    | 0 => cat2 (PP b n u f 1 p o) (fun q => PP b n u f 6 q o)
    | 1 => cat2 (PP b n u f 2 p o) (fun q => PP b n u f 7 q o)
    | 2 => cat2 (PP b n u f 3 p o) (fun q => cif (hr b n q = 60 ∨ hr b n q = 61 ∨ hr b n q = 62) (cat2 (PP b n u f 3 (q + 1) o) (fun q2 => (true, q2, [-(hr b n q)]))) (true, q, []))
    | 3 => cat2 (PP b n u f 4 p o) (fun q => PP b n u f 8 q o)
    | 4 => cat2 (PP b n u f 5 p o) (fun q => PP b n u f 9 q o)
    | 5 => cif (hr b n p = 40) (cif (o = 5) (false, p, []) (cat2 (PP b n u f 0 (p + 1) (o + 1)) (fun q => cif (hr b n q = 41) (true, q + 1, []) (false, q, []))))
      (cif (hr b n p = 33) (cif (o = 5) (false, p, []) (cat2 (PP b n u f 5 (p + 1) (o + 1)) (fun q => (true, q, [-33]))))
        (cif (nmi u (hr b n p) < 9) (true, p + 1, [nI (10000 + nmi u (hr b n p))])
          (cif (isdg (hr b n p)) (true, (numv b n 4 p 0).1, [(numv b n 4 p 0).2]) (false, p, []))))
    | 6 => cif (hr b n p = 124) (cat2 (PP b n u f 1 (p + 1) o) (fun q => cat2 (true, q, [-124]) (fun q => PP b n u f 6 q o))) (true, p, [])
    | 7 => cif (hr b n p = 38) (cat2 (PP b n u f 2 (p + 1) o) (fun q => cat2 (true, q, [-38]) (fun q => PP b n u f 7 q o))) (true, p, [])
    | 8 => cif (hr b n p = 43 ∨ hr b n p = 45) (cat2 (PP b n u f 4 (p + 1) o) (fun q => cat2 (true, q, [-(hr b n p)]) (fun q => PP b n u f 8 q o))) (true, p, [])
    | _ => cif (hr b n p = 42 ∨ hr b n p = 47 ∨ hr b n p = 37) (cat2 (PP b n u f 5 (p + 1) o) (fun q => cat2 (true, q, [-(hr b n p)]) (fun q => PP b n u f 9 q o))) (true, p, [])
theorem cat2_p {r : PT} {k : Nat → PT} {P : Nat → Prop} (h1 : P r.2.1) (h2 : ∀ q, P q → P (k q).2.1) : P (cat2 r k).2.1 := by
  obtain ⟨ok, q, ps⟩ := r
  cases ok with
  | false => exact h1
  | true =>
    have h3 := h2 q h1
    unfold cat2
    dsimp only
    cases hk : k q with
    | mk ok2 x =>
      obtain ⟨q2, qs⟩ := x
      rw [hk] at h3
      cases ok2 <;> exact h3
theorem cif_p {α : Type} {C : Prop} {a b : α} {P : α → Prop} (h1 : C → P a) (h2 : ¬ C → P b) : P (cif C a b) := by
  by_cases h : C
  · rw [cif_t h]; exact h1 h
  · rw [cif_f h]; exact h2 h
theorem numv_ge (b : Nat → Int32) (n : Nat) : ∀ c p v, p ≤ (numv b n c p v).1 := by
  intro c
  induction c with
  | zero => intro p v; exact Nat.le_refl _
  | succ c ih =>
    intro p v
    unfold numv
    exact cif_p (P := fun x : Nat × Int32 => p ≤ x.1) (fun _ => Nat.le_of_succ_le (ih (p + 1) _)) (fun _ => Nat.le_refl _)
theorem hr_lt {b : Nat → Int32} {n p : Nat} {x : Int32} (h : hr b n p = x) (hx : x ≠ -1) : p < n := by
  unfold hr at h
  by_cases q : p < n
  · exact q
  · rw [if_neg q] at h
    exact absurd h.symm hx
theorem dg_lt {b : Nat → Int32} {n p : Nat} (h : isdg (hr b n p)) : p < n := by
  by_cases q : p < n
  · exact q
  · unfold hr at h
    rw [if_neg q] at h
    exact absurd h.1 (by decide)
theorem nm_lt {b : Nat → Int32} {n p u : Nat} (h : nmi u (hr b n p) < 9) : p < n := by
  by_cases q : p < n
  · exact q
  · unfold hr at h
    rw [if_neg q] at h
    unfold nmi at h
    by_cases hu : u = 1
    · rw [cif_t hu, cif_f (by decide), cif_f (by decide)] at h
      omega
    · rw [cif_f hu, cif_f (by decide), cif_f (by decide), cif_f (by decide), cif_f (by decide)] at h
      omega
theorem numv_le (b : Nat → Int32) (n : Nat) : ∀ c p v, p ≤ n → (numv b n c p v).1 ≤ n := by
  intro c
  induction c with
  | zero => intro p v h; exact h
  | succ c ih =>
    intro p v h
    unfold numv
    exact cif_p (P := fun x : Nat × Int32 => x.1 ≤ n) (fun g => ih (p + 1) _ (dg_lt g)) (fun _ => h)
theorem PP_ge (b : Nat → Int32) (n u : Nat) : ∀ f c p o, p ≤ (PP b n u f c p o).2.1 := by
  intro f
  induction f with
  | zero => intro c p o; exact Nat.le_refl _
  | succ f ih =>
    intro c p o
    unfold PP
    split
    · exact cat2_p (P := fun q => p ≤ q) (ih _ _ _) (fun q h => Nat.le_trans h (ih _ _ _))
    · exact cat2_p (P := fun q => p ≤ q) (ih _ _ _) (fun q h => Nat.le_trans h (ih _ _ _))
    · exact cat2_p (P := fun q => p ≤ q) (ih _ _ _) (fun q h => cif_p (P := fun x : PT => p ≤ x.2.1) (fun _ => cat2_p (P := fun q => p ≤ q) (Nat.le_trans (Nat.le_succ_of_le h) (ih _ _ _)) (fun q h => h)) (fun _ => h))
    · exact cat2_p (P := fun q => p ≤ q) (ih _ _ _) (fun q h => Nat.le_trans h (ih _ _ _))
    · exact cat2_p (P := fun q => p ≤ q) (ih _ _ _) (fun q h => Nat.le_trans h (ih _ _ _))
    · refine cif_p (P := fun x : PT => p ≤ x.2.1) (fun _ => cif_p (P := fun x : PT => p ≤ x.2.1) (fun _ => Nat.le_refl _) (fun _ => cat2_p (P := fun q => p ≤ q) (Nat.le_of_succ_le (ih _ _ _)) (fun q h => cif_p (P := fun x : PT => p ≤ x.2.1) (fun _ => Nat.le_succ_of_le h) (fun _ => h)))) (fun _ => ?_)
      refine cif_p (P := fun x : PT => p ≤ x.2.1) (fun _ => cif_p (P := fun x : PT => p ≤ x.2.1) (fun _ => Nat.le_refl _) (fun _ => cat2_p (P := fun q => p ≤ q) (Nat.le_of_succ_le (ih _ _ _)) (fun q h => h))) (fun _ => ?_)
      refine cif_p (P := fun x : PT => p ≤ x.2.1) (fun _ => Nat.le_succ _) (fun _ => ?_)
      exact cif_p (P := fun x : PT => p ≤ x.2.1) (fun _ => numv_ge b n 4 p 0) (fun _ => Nat.le_refl _)
    · exact cif_p (P := fun x : PT => p ≤ x.2.1) (fun _ => cat2_p (P := fun q => p ≤ q) (Nat.le_of_succ_le (ih _ _ _)) (fun q h => cat2_p (P := fun q => p ≤ q) h (fun q h => Nat.le_trans h (ih _ _ _)))) (fun _ => Nat.le_refl _)
    · exact cif_p (P := fun x : PT => p ≤ x.2.1) (fun _ => cat2_p (P := fun q => p ≤ q) (Nat.le_of_succ_le (ih _ _ _)) (fun q h => cat2_p (P := fun q => p ≤ q) h (fun q h => Nat.le_trans h (ih _ _ _)))) (fun _ => Nat.le_refl _)
    · exact cif_p (P := fun x : PT => p ≤ x.2.1) (fun _ => cat2_p (P := fun q => p ≤ q) (Nat.le_of_succ_le (ih _ _ _)) (fun q h => cat2_p (P := fun q => p ≤ q) h (fun q h => Nat.le_trans h (ih _ _ _)))) (fun _ => Nat.le_refl _)
    · exact cif_p (P := fun x : PT => p ≤ x.2.1) (fun _ => cat2_p (P := fun q => p ≤ q) (Nat.le_of_succ_le (ih _ _ _)) (fun q h => cat2_p (P := fun q => p ≤ q) h (fun q h => Nat.le_trans h (ih _ _ _)))) (fun _ => Nat.le_refl _)
theorem PP_le (b : Nat → Int32) (n u : Nat) : ∀ f c p o, p ≤ n → (PP b n u f c p o).2.1 ≤ n := by
  intro f
  induction f with
  | zero => intro c p o h; exact h
  | succ f ih =>
    intro c p o h
    have ne : ∀ {q : Nat} {x : Int32}, hr b n q = x → x ≠ -1 → q + 1 ≤ n := fun h hx => hr_lt h hx
    have ih2 : ∀ c o q, q ≤ n → (PP b n u f c q o).2.1 ≤ n := fun c o q h => ih c q o h
    unfold PP
    split
    · exact cat2_p (P := fun q => q ≤ n) (ih _ _ _ h) (fun q h => ih _ _ _ h)
    · exact cat2_p (P := fun q => q ≤ n) (ih _ _ _ h) (fun q h => ih _ _ _ h)
    · exact cat2_p (P := fun q => q ≤ n) (ih _ _ _ h) (fun q h => cif_p (P := fun x : PT => x.2.1 ≤ n) (fun g => cat2_p (P := fun q => q ≤ n) (ih _ _ _ (by rcases g with g | g | g <;> exact ne g (by decide))) (fun q h => h)) (fun _ => h))
    · exact cat2_p (P := fun q => q ≤ n) (ih _ _ _ h) (fun q h => ih _ _ _ h)
    · exact cat2_p (P := fun q => q ≤ n) (ih _ _ _ h) (fun q h => ih _ _ _ h)
    · refine cif_p (P := fun x : PT => x.2.1 ≤ n) (fun g => cif_p (P := fun x : PT => x.2.1 ≤ n) (fun _ => h) (fun _ => cat2_p (P := fun q => q ≤ n) (ih _ _ _ (ne g (by decide))) (fun q h => cif_p (P := fun x : PT => x.2.1 ≤ n) (fun g => ne g (by decide)) (fun _ => h)))) (fun _ => ?_)
      refine cif_p (P := fun x : PT => x.2.1 ≤ n) (fun g => cif_p (P := fun x : PT => x.2.1 ≤ n) (fun _ => h) (fun _ => cat2_p (P := fun q => q ≤ n) (ih _ _ _ (ne g (by decide))) (fun q h => h))) (fun _ => ?_)
      refine cif_p (P := fun x : PT => x.2.1 ≤ n) (fun g => nm_lt g) (fun _ => ?_)
      exact cif_p (P := fun x : PT => x.2.1 ≤ n) (fun _ => numv_le b n 4 p 0 h) (fun _ => h)
    · exact cif_p (P := fun x : PT => x.2.1 ≤ n) (fun g => cat2_p (P := fun q => q ≤ n) (ih _ _ _ (ne g (by decide))) (fun q h => cat2_p (P := fun q => q ≤ n) h (fun q h => ih _ _ _ h))) (fun _ => h)
    · exact cif_p (P := fun x : PT => x.2.1 ≤ n) (fun g => cat2_p (P := fun q => q ≤ n) (ih _ _ _ (ne g (by decide))) (fun q h => cat2_p (P := fun q => q ≤ n) h (fun q h => ih _ _ _ h))) (fun _ => h)
    · exact cif_p (P := fun x : PT => x.2.1 ≤ n) (fun g => cat2_p (P := fun q => q ≤ n) (ih _ _ _ (by rcases g with g | g <;> exact ne g (by decide))) (fun q h => cat2_p (P := fun q => q ≤ n) h (fun q h => ih _ _ _ h))) (fun _ => h)
    · exact cif_p (P := fun x : PT => x.2.1 ≤ n) (fun g => cat2_p (P := fun q => q ≤ n) (ih _ _ _ (by rcases g with g | g | g <;> exact ne g (by decide))) (fun q h => cat2_p (P := fun q => q ≤ n) h (fun q h => ih _ _ _ h))) (fun _ => h)
