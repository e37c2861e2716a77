/-! ===== texts: what is read is sound ===== -/
theorem dg_nat {x : Int32} (h : isdg x) : ∃ y : Nat, 48 ≤ y ∧ y ≤ 57 ∧ x = nI y := by
  obtain ⟨y, hy, rfl⟩ := rg (c := 57) (by omega) (by rw [fa_le]; exact Int.le_trans (by decide) ((fa_le _ _).mp h.1)) h.2
  exact ⟨y, (nI_leI (a := 48) (by omega) (by omega)).mp h.1, hy, rfl⟩
theorem num_step {k y : Nat} (hy : 48 ≤ y) : (10 : Int32) * nI k + nI y - 48 = nI (10 * k + (y - 48)) := by
  rw [show (10 : Int32) = nI 10 from rfl, show (48 : Int32) = nI 48 from rfl, pk_mul, nI_add, pk_sub (by omega)]
  congr 1
  omega
theorem numv_val (b : Nat → Int32) (n : Nat) : ∀ c p k, (k + 1) * 10 ^ c ≤ 10000 → ∃ j, j < (k + 1) * 10 ^ c ∧ (numv b n c p (nI k)).2 = nI j := by
  intro c
  induction c with
  | zero => intro p k h; exact ⟨k, by omega, rfl⟩
  | succ c ih =>
    intro p k h
    unfold numv
    rw [Nat.pow_succ] at h
    by_cases g : isdg (hr b n p)
    · rw [cif_t g]
      obtain ⟨y, h1, h2, e⟩ := dg_nat g
      rw [e, num_step h1]
      have hb : (10 * k + (y - 48) + 1) * 10 ^ c ≤ (k + 1) * (10 ^ c * 10) := by
        calc (10 * k + (y - 48) + 1) * 10 ^ c ≤ (10 * (k + 1)) * 10 ^ c := Nat.mul_le_mul_right _ (by omega)
          _ = (k + 1) * (10 ^ c * 10) := by rw [Nat.mul_comm 10 (k + 1), Nat.mul_assoc, Nat.mul_comm 10]
      obtain ⟨j, hj, ej⟩ := ih (p + 1) (10 * k + (y - 48)) (Nat.le_trans hb h)
      exact ⟨j, by rw [Nat.pow_succ]; omega, ej⟩
    · rw [cif_f g]
      refine ⟨k, ?_, rfl⟩
      rw [Nat.pow_succ]
      have : 0 < 10 ^ c := Nat.pos_of_ne_zero (by simp)
      calc k < (k + 1) * 1 := by omega
        _ ≤ (k + 1) * (10 ^ c * 10) := Nat.mul_le_mul_left _ (by omega)
theorem numv_gt {b : Nat → Int32} {n p : Nat} (h : isdg (hr b n p)) : p + 1 ≤ (numv b n 4 p 0).1 := by
  unfold numv
  rw [cif_t h]
  exact numv_ge b n 3 (p + 1) _
theorem nmi4 {u : Nat} {x : Int32} (h : nmi u x < 9) : nmi u x < 4 := by
  unfold nmi at h ⊢
  revert h
  refine cif_p (P := fun y : Nat => y < 9 → y < 4) (fun _ => ?_) (fun _ => ?_)
  · refine cif_p (P := fun y : Nat => y < 9 → y < 4) (fun _ _ => by omega) (fun _ => cif_p (P := fun y : Nat => y < 9 → y < 4) (fun _ _ => by omega) (fun _ h => by omega))
  · refine cif_p (P := fun y : Nat => y < 9 → y < 4) (fun _ _ => by omega) (fun _ => cif_p (P := fun y : Nat => y < 9 → y < 4) (fun _ _ => by omega) (fun _ => cif_p (P := fun y : Nat => y < 9 → y < 4) (fun _ _ => by omega) (fun _ => cif_p (P := fun y : Nat => y < 9 → y < 4) (fun _ _ => by omega) (fun _ h => by omega))))
def isop (s : Int32) : Prop := s = 124 ∨ s = 38 ∨ s = 60 ∨ s = 61 ∨ s = 62 ∨ s = 43 ∨ s = 45 ∨ s = 42 ∨ s = 47 ∨ s = 37
theorem isop_n {s : Int32} (h : isop s) : ¬ 0 ≤ -s ∧ ¬ -s = -33 := by
  rcases h with rfl | rfl | rfl | rfl | rfl | rfl | rfl | rfl | rfl | rfl <;> exact ⟨by decide, by decide⟩
/-- a part of a law that is read: a number, a name, an operator -/
def ptok (t : Int32) : Prop := (∃ v : Nat, v < 10004 ∧ t = nI v) ∨ t = -33 ∨ ∃ s, isop s ∧ t = -s
theorem PP_ok (nm : Nat → Int32) (b : Nat → Int32) (n u : Nat) : ∀ f c p o, (PP b n u f c p o).1 = true → (c < 6 → WV nm (PP b n u f c p o).2.2) ∧ (6 ≤ c → WX nm (PP b n u f c p o).2.2) ∧ p + (PP b n u f c p o).2.2.length ≤ (PP b n u f c p o).2.1 ∧ ∀ t ∈ (PP b n u f c p o).2.2, ptok t := by
  intro f
  induction f with
  | zero => intro c p o h; exact absurd h (by intro q; cases q)
  | succ f ih =>
    intro c p o h
    have two : ∀ {r : PT} {k : Nat → PT}, (cat2 r k).1 = true → (r.1 = true → WV nm r.2.2 ∧ p + r.2.2.length ≤ r.2.1 ∧ ∀ t ∈ r.2.2, ptok t) → (∀ q, (k q).1 = true → WX nm (k q).2.2 ∧ q + (k q).2.2.length ≤ (k q).2.1 ∧ ∀ t ∈ (k q).2.2, ptok t) → WV nm (cat2 r k).2.2 ∧ p + (cat2 r k).2.2.length ≤ (cat2 r k).2.1 ∧ ∀ t ∈ (cat2 r k).2.2, ptok t := by
      intro r k h h1 h2
      obtain ⟨g1, g2, g3, g4⟩ := cat2_t h
      obtain ⟨a1, a2, a3⟩ := h1 g1
      obtain ⟨b1, b2, b3⟩ := h2 _ g2
      rw [g3, g4]
      refine ⟨(WV_cat a1 b1).1, by rw [List.length_append]; omega, fun t ht => ?_⟩
      rcases List.mem_append.mp ht with ht | ht
      · exact a3 t ht
      · exact b3 t ht
    have ihV : ∀ c o q, c < 6 → (PP b n u f c q o).1 = true → WV nm (PP b n u f c q o).2.2 ∧ q + (PP b n u f c q o).2.2.length ≤ (PP b n u f c q o).2.1 ∧ ∀ t ∈ (PP b n u f c q o).2.2, ptok t := fun c o q hc h => ⟨(ih c q o h).1 hc, (ih c q o h).2.2⟩
    have ihX : ∀ c o q, 6 ≤ c → (PP b n u f c q o).1 = true → WX nm (PP b n u f c q o).2.2 ∧ q + (PP b n u f c q o).2.2.length ≤ (PP b n u f c q o).2.1 ∧ ∀ t ∈ (PP b n u f c q o).2.2, ptok t := fun c o q hc h => ⟨(ih c q o h).2.1 hc, (ih c q o h).2.2⟩
    have more : ∀ {c : Nat} {s : Int32} {k : Nat → PT}, c < 6 → isop s → (∀ q, (k q).1 = true → WX nm (k q).2.2 ∧ q + (k q).2.2.length ≤ (k q).2.1 ∧ ∀ t ∈ (k q).2.2, ptok t) → ∀ q, (cat2 (PP b n u f c (q + 1) o) (fun q => cat2 (true, q, [-s]) k)).1 = true → WX nm (cat2 (PP b n u f c (q + 1) o) (fun q => cat2 (true, q, [-s]) k)).2.2 ∧ q + (cat2 (PP b n u f c (q + 1) o) (fun q => cat2 (true, q, [-s]) k)).2.2.length ≤ (cat2 (PP b n u f c (q + 1) o) (fun q => cat2 (true, q, [-s]) k)).2.1 ∧ ∀ t ∈ (cat2 (PP b n u f c (q + 1) o) (fun q => cat2 (true, q, [-s]) k)).2.2, ptok t := by
      intro c s k hc hs hk q h
      obtain ⟨g1, g2, g3, g4⟩ := cat2_t h
      obtain ⟨a1, a2, a3⟩ := ihV c o (q + 1) hc g1
      obtain ⟨-, g6, g7, g8⟩ := cat2_t g2
      obtain ⟨b1, b2, b3⟩ := hk _ g6
      rw [g3, g4, g7, g8]
      refine ⟨?_, ?_, fun t ht => ?_⟩
      · have w1 := WX_op a1 (isop_n hs).1 (isop_n hs).2
        have w2 := (WX_app w1.1 b1).1
        rw [List.append_assoc] at w2
        exact w2
      · rw [List.length_append, List.length_append]
        have e1 : ([-s] : List Int32).length = 1 := rfl
        rw [e1]
        have b2 : (PP b n u f c (q + 1) o).2.1 + _ ≤ _ := b2
        omega
      · rcases List.mem_append.mp ht with ht | ht
        · exact a3 t ht
        · rcases List.mem_append.mp ht with ht | ht
          · rw [List.mem_singleton.mp ht]
            exact Or.inr (Or.inr ⟨s, hs, rfl⟩)
          · exact b3 t ht
    have nilX : ∀ q, WX nm ((true, q, []) : PT).2.2 ∧ q + ((true, q, []) : PT).2.2.length ≤ ((true, q, []) : PT).2.1 ∧ ∀ t ∈ ((true, q, []) : PT).2.2, ptok t := fun q => ⟨(WX_nil nm).1, Nat.le_refl _, fun t ht => absurd ht List.not_mem_nil⟩
    match c, h with
    | 0, h => exact ⟨fun _ => (two h (ihV 1 o p (by omega)) (fun q => ihX 6 o q (by omega))).1, fun q => absurd q (by omega), (two h (ihV 1 o p (by omega)) (fun q => ihX 6 o q (by omega))).2⟩
    | 1, h => exact ⟨fun _ => (two h (ihV 2 o p (by omega)) (fun q => ihX 7 o q (by omega))).1, fun q => absurd q (by omega), (two h (ihV 2 o p (by omega)) (fun q => ihX 7 o q (by omega))).2⟩
    | 2, h =>
      have key := two h (ihV 3 o p (by omega)) (fun q hq => by
        by_cases g : hr b n q = 60 ∨ hr b n q = 61 ∨ hr b n q = 62
        · have hs : isop (hr b n q) := by rcases g with g | g | g <;> rw [g] <;> unfold isop <;> simp
          try dsimp only at hq ⊢
          rw [cif_t g] at hq ⊢
          have e : (fun q2 => ((true, q2, [-(hr b n q)]) : PT)) = (fun q2 => cat2 (true, q2, [-(hr b n q)]) (fun q => (true, q, []))) := by
            funext q2
            unfold cat2
            simp
          rw [e] at hq ⊢
          exact more (by omega) hs (fun q _ => nilX q) q hq
        · try dsimp only at hq ⊢
          rw [cif_f g]
          exact nilX q)
      exact ⟨fun _ => key.1, fun q => absurd q (by omega), key.2⟩
    | 3, h => exact ⟨fun _ => (two h (ihV 4 o p (by omega)) (fun q => ihX 8 o q (by omega))).1, fun q => absurd q (by omega), (two h (ihV 4 o p (by omega)) (fun q => ihX 8 o q (by omega))).2⟩
    | 4, h => exact ⟨fun _ => (two h (ihV 5 o p (by omega)) (fun q => ihX 9 o q (by omega))).1, fun q => absurd q (by omega), (two h (ihV 5 o p (by omega)) (fun q => ihX 9 o q (by omega))).2⟩
    | 5, h =>
      have e5 : PP b n u (f + 1) 5 p o = cif (hr b n p = 40) (cif (o = 5) (false, p, []) (cat2 (PP b n u f 0 (p + 1) (o + 1)) (fun q => cif (hr b n q = 41) (true, q + 1, []) (false, q, []))))
        (cif (hr b n p = 33) (cif (o = 5) (false, p, []) (cat2 (PP b n u f 5 (p + 1) (o + 1)) (fun q => (true, q, [-33]))))
          (cif (nmi u (hr b n p) < 9) (true, p + 1, [nI (10000 + nmi u (hr b n p))])
            (cif (isdg (hr b n p)) (true, (numv b n 4 p 0).1, [(numv b n 4 p 0).2]) (false, p, [])))) := rfl
      have key : WV nm (PP b n u (f + 1) 5 p o).2.2 ∧ p + (PP b n u (f + 1) 5 p o).2.2.length ≤ (PP b n u (f + 1) 5 p o).2.1 ∧ ∀ t ∈ (PP b n u (f + 1) 5 p o).2.2, ptok t := by
        rw [e5] at h ⊢
        by_cases g1 : hr b n p = 40
        · rw [cif_t g1] at h ⊢
          by_cases g2 : o = 5
          · rw [cif_t g2] at h; exact absurd h (by intro q; cases q)
          · rw [cif_f g2] at h ⊢
            obtain ⟨k1, k2, k3, k4⟩ := cat2_t h
            obtain ⟨a1, a2, a3⟩ := ihV 0 (o + 1) (p + 1) (by omega) k1
            by_cases g3 : hr b n (PP b n u f 0 (p + 1) (o + 1)).2.1 = 41
            · rw [k3, k4, cif_t g3]
              rw [List.append_nil]
              exact ⟨a1, by show p + _ ≤ _ + 1; omega, a3⟩
            · rw [cif_f g3] at k2
              exact absurd k2 (by intro q; cases q)
        · rw [cif_f g1] at h ⊢
          by_cases g2 : hr b n p = 33
          · rw [cif_t g2] at h ⊢
            by_cases g3 : o = 5
            · rw [cif_t g3] at h; exact absurd h (by intro q; cases q)
            · rw [cif_f g3] at h ⊢
              obtain ⟨k1, k2, k3, k4⟩ := cat2_t h
              obtain ⟨a1, a2, a3⟩ := ihV 5 (o + 1) (p + 1) (by omega) k1
              rw [k3, k4]
              refine ⟨(WV_not a1).1, ?_, fun t ht => ?_⟩
              · rw [List.length_append]
                have e1 : ([-33] : List Int32).length = 1 := rfl
                show p + (_ + ([-33] : List Int32).length) ≤ (PP b n u f 5 (p + 1) (o + 1)).2.1
                rw [e1]
                omega
              · rcases List.mem_append.mp ht with ht | ht
                · exact a3 t ht
                · rw [List.mem_singleton.mp ht]; exact Or.inr (Or.inl rfl)
          · rw [cif_f g2] at h ⊢
            by_cases g3 : nmi u (hr b n p) < 9
            · rw [cif_t g3]
              exact ⟨(WV_nm nm (nmi4 g3)).1, Nat.le_refl _, fun t ht => by rw [List.mem_singleton.mp ht]; exact Or.inl ⟨_, by have := nmi4 g3; omega, rfl⟩⟩
            · rw [cif_f g3] at h ⊢
              by_cases g4 : isdg (hr b n p)
              · rw [cif_t g4]
                obtain ⟨j, hj, ej⟩ := numv_val b n 4 p 0 (by decide)
                have ej : (numv b n 4 p 0).2 = nI j := ej
                have hj : j < 10000 := by omega
                rw [ej]
                exact ⟨(WV_lit nm hj).1, numv_gt g4, fun t ht => by rw [List.mem_singleton.mp ht]; exact Or.inl ⟨j, by omega, rfl⟩⟩
              · rw [cif_f g4] at h
                exact absurd h (by intro q; cases q)
      exact ⟨fun _ => key.1, fun q => absurd q (by omega), key.2⟩
    | 6, h =>
      have key : WX nm (PP b n u (f + 1) 6 p o).2.2 ∧ p + (PP b n u (f + 1) 6 p o).2.2.length ≤ (PP b n u (f + 1) 6 p o).2.1 ∧ ∀ t ∈ (PP b n u (f + 1) 6 p o).2.2, ptok t := by
        unfold PP at h ⊢
        try dsimp only at h ⊢
        by_cases g : hr b n p = 124
        · rw [cif_t g] at h ⊢
          exact more (by omega) (Or.inl rfl) (fun q => ihX 6 o q (by omega)) p h
        · rw [cif_f g]
          exact nilX p
      exact ⟨fun q => absurd q (by omega), fun _ => key.1, key.2⟩
    | 7, h =>
      have key : WX nm (PP b n u (f + 1) 7 p o).2.2 ∧ p + (PP b n u (f + 1) 7 p o).2.2.length ≤ (PP b n u (f + 1) 7 p o).2.1 ∧ ∀ t ∈ (PP b n u (f + 1) 7 p o).2.2, ptok t := by
        unfold PP at h ⊢
        try dsimp only at h ⊢
        by_cases g : hr b n p = 38
        · rw [cif_t g] at h ⊢
          exact more (by omega) (Or.inr (Or.inl rfl)) (fun q => ihX 7 o q (by omega)) p h
        · rw [cif_f g]
          exact nilX p
      exact ⟨fun q => absurd q (by omega), fun _ => key.1, key.2⟩
    | 8, h =>
      have key : WX nm (PP b n u (f + 1) 8 p o).2.2 ∧ p + (PP b n u (f + 1) 8 p o).2.2.length ≤ (PP b n u (f + 1) 8 p o).2.1 ∧ ∀ t ∈ (PP b n u (f + 1) 8 p o).2.2, ptok t := by
        unfold PP at h ⊢
        try dsimp only at h ⊢
        by_cases g : hr b n p = 43 ∨ hr b n p = 45
        · rw [cif_t g] at h ⊢
          exact more (by omega) (by rcases g with g | g <;> rw [g] <;> unfold isop <;> simp) (fun q => ihX 8 o q (by omega)) p h
        · rw [cif_f g]
          exact nilX p
      exact ⟨fun q => absurd q (by omega), fun _ => key.1, key.2⟩
    | c + 9, h =>
      have key : WX nm (PP b n u (f + 1) (c + 9) p o).2.2 ∧ p + (PP b n u (f + 1) (c + 9) p o).2.2.length ≤ (PP b n u (f + 1) (c + 9) p o).2.1 ∧ ∀ t ∈ (PP b n u (f + 1) (c + 9) p o).2.2, ptok t := by
        unfold PP at h ⊢
        try dsimp only at h ⊢
        by_cases g : hr b n p = 42 ∨ hr b n p = 47 ∨ hr b n p = 37
        · rw [cif_t g] at h ⊢
          exact more (by omega) (by rcases g with g | g | g <;> rw [g] <;> unfold isop <;> simp) (fun q => ihX 9 o q (by omega)) p h
        · rw [cif_f g]
          exact nilX p
      exact ⟨fun q => absurd q (by omega), fun _ => key.1, key.2⟩
