/-! ===== texts: enough fuel; values ===== -/
theorem cat2_c {r r' : PT} {k k' : Nat → PT} (h1 : r = r') (h2 : k r.2.1 = k' r.2.1) : cat2 r k = cat2 r' k' := by
  subst h1
  obtain ⟨ok, q, ps⟩ := r
  cases ok with
  | false => rfl
  | true =>
    unfold cat2
    dsimp only at h2 ⊢
    rw [h2]
theorem cif_c {α : Type} {C : Prop} {a a' b b' : α} (h1 : C → a = a') (h2 : ¬ C → b = b') : cif C a b = cif C a' b' := by
  by_cases h : C
  · rw [cif_t h, cif_t h, h1 h]
  · rw [cif_f h, cif_f h, h2 h]
def lvl : Nat → Nat
  | 0 => 7
  | 1 => 6
  | 2 => 5
  | 3 => 4
  | 4 => 3
  | 5 => 2
  | _ => 1
theorem PP_mono (b : Nat → Int32) (n u : Nat) : ∀ f c p o, 12 * (n - p) + lvl c < f → PP b n u f c p o = PP b n u (f + 1) c p o := by
  intro f
  induction f with
  | zero => intro c p o h; exact absurd h (Nat.not_lt_zero _)
  | succ f ih =>
    intro c p o h
    have ge := fun c p o => PP_ge b n u f c p o
    have ne : ∀ {q : Nat} {x : Int32}, hr b n q = x → x ≠ -1 → q + 1 ≤ n := fun h hx => hr_lt h hx
    match c, h with
    | 0, h =>
      have h : 12 * (n - p) + 7 < f + 1 := h
      have l1 : lvl 1 = 6 := rfl
      have l6 : lvl 6 = 1 := rfl
      exact cat2_c (ih 1 p o (by rw [l1]; omega)) (ih 6 _ o (by have := ge 1 p o; rw [l6]; omega))
    | 1, h =>
      have h : 12 * (n - p) + 6 < f + 1 := h
      have l1 : lvl 2 = 5 := rfl
      have l6 : lvl 7 = 1 := rfl
      exact cat2_c (ih 2 p o (by rw [l1]; omega)) (ih 7 _ o (by have := ge 2 p o; rw [l6]; omega))
    | 2, h =>
      have h : 12 * (n - p) + 5 < f + 1 := h
      have l1 : lvl 3 = 4 := rfl
      refine cat2_c (ih 3 p o (by rw [l1]; omega)) (cif_c (fun g => ?_) (fun _ => rfl))
      have hq : (PP b n u f 3 p o).2.1 + 1 ≤ n := by rcases g with g | g | g <;> exact ne g (by decide)
      exact cat2_c (ih 3 _ o (by have := ge 3 p o; rw [l1]; omega)) rfl
    | 3, h =>
      have h : 12 * (n - p) + 4 < f + 1 := h
      have l1 : lvl 4 = 3 := rfl
      have l6 : lvl 8 = 1 := rfl
      exact cat2_c (ih 4 p o (by rw [l1]; omega)) (ih 8 _ o (by have := ge 4 p o; rw [l6]; omega))
    | 4, h =>
      have h : 12 * (n - p) + 3 < f + 1 := h
      have l1 : lvl 5 = 2 := rfl
      have l6 : lvl 9 = 1 := rfl
      exact cat2_c (ih 5 p o (by rw [l1]; omega)) (ih 9 _ o (by have := ge 5 p o; rw [l6]; omega))
    | 5, h =>
      have h : 12 * (n - p) + 2 < f + 1 := h
      have l0 : lvl 0 = 7 := rfl
      have l5 : lvl 5 = 2 := rfl
      refine cif_c (fun g => cif_c (fun _ => rfl) (fun _ => cat2_c (ih 0 _ _ (by have := ne g (by decide); rw [l0]; omega)) rfl)) (fun _ => ?_)
      exact cif_c (fun g => cif_c (fun _ => rfl) (fun _ => cat2_c (ih 5 _ _ (by have := ne g (by decide); rw [l5]; omega)) rfl)) (fun _ => rfl)
    | 6, h =>
      have h : 12 * (n - p) + 1 < f + 1 := h
      have l1 : lvl 1 = 6 := rfl
      have l6 : lvl 6 = 1 := rfl
      refine cif_c (fun g => ?_) (fun _ => rfl)
      have hn := ne g (by decide)
      exact cat2_c (ih 1 _ o (by rw [l1]; omega)) (cat2_c rfl (ih 6 _ o (by have := ge 1 (p + 1) o; rw [l6]; dsimp only; omega)))
    | 7, h =>
      have h : 12 * (n - p) + 1 < f + 1 := h
      have l1 : lvl 2 = 5 := rfl
      have l6 : lvl 7 = 1 := rfl
      refine cif_c (fun g => ?_) (fun _ => rfl)
      have hn := ne g (by decide)
      exact cat2_c (ih 2 _ o (by rw [l1]; omega)) (cat2_c rfl (ih 7 _ o (by have := ge 2 (p + 1) o; rw [l6]; dsimp only; omega)))
    | 8, h =>
      have h : 12 * (n - p) + 1 < f + 1 := h
      have l1 : lvl 4 = 3 := rfl
      have l6 : lvl 8 = 1 := rfl
      refine cif_c (fun g => ?_) (fun _ => rfl)
      have hn : p + 1 ≤ n := by rcases g with g | g <;> exact ne g (by decide)
      exact cat2_c (ih 4 _ o (by rw [l1]; omega)) (cat2_c rfl (ih 8 _ o (by have := ge 4 (p + 1) o; rw [l6]; dsimp only; omega)))
    | c + 9, h =>
      have h : 12 * (n - p) + 1 < f + 1 := h
      have l1 : lvl 5 = 2 := rfl
      have l6 : lvl 9 = 1 := rfl
      refine cif_c (fun g => ?_) (fun _ => rfl)
      have hn : p + 1 ≤ n := by rcases g with g | g | g <;> exact ne g (by decide)
      exact cat2_c (ih 5 _ o (by rw [l1]; omega)) (cat2_c rfl (ih 9 _ o (by have := ge 5 (p + 1) o; rw [l6]; dsimp only; omega)))
/-- what is read: fuel enough for any text -/
noncomputable def PR (b : Nat → Int32) (n u c p o : Nat) : PT := PP b n u 700 c p o
theorem PR_f {b : Nat → Int32} {n u c p o : Nat} (hn : n ≤ 50) : PP b n u 699 c p o = PR b n u c p o := PP_mono b n u 699 c p o (by
  have h : lvl c ≤ 7 := by unfold lvl; split <;> omega
  omega)
theorem PR_0 {b : Nat → Int32} {n u p o : Nat} (hn : n ≤ 50) : PR b n u 0 p o = cat2 (PR b n u 1 p o) (fun q => PR b n u 6 q o) := cat2_c (PR_f hn) (PR_f hn)
theorem PR_1 {b : Nat → Int32} {n u p o : Nat} (hn : n ≤ 50) : PR b n u 1 p o = cat2 (PR b n u 2 p o) (fun q => PR b n u 7 q o) := cat2_c (PR_f hn) (PR_f hn)
theorem PR_2 {b : Nat → Int32} {n u p o : Nat} (hn : n ≤ 50) : PR b n u 2 p o = cat2 (PR b n u 3 p o) (fun q => cif (hr b n q = 60 ∨ hr b n q = 61 ∨ hr b n q = 62) (cat2 (PR b n u 3 (q + 1) o) (fun q2 => (true, q2, [-(hr b n q)]))) (true, q, [])) := cat2_c (PR_f hn) (cif_c (fun _ => cat2_c (PR_f hn) rfl) (fun _ => rfl))
theorem PR_3 {b : Nat → Int32} {n u p o : Nat} (hn : n ≤ 50) : PR b n u 3 p o = cat2 (PR b n u 4 p o) (fun q => PR b n u 8 q o) := cat2_c (PR_f hn) (PR_f hn)
theorem PR_4 {b : Nat → Int32} {n u p o : Nat} (hn : n ≤ 50) : PR b n u 4 p o = cat2 (PR b n u 5 p o) (fun q => PR b n u 9 q o) := cat2_c (PR_f hn) (PR_f hn)
theorem PR_5 {b : Nat → Int32} {n u p o : Nat} (hn : n ≤ 50) : PR b n u 5 p o = cif (hr b n p = 40) (cif (o = 5) (false, p, []) (cat2 (PR b n u 0 (p + 1) (o + 1)) (fun q => cif (hr b n q = 41) (true, q + 1, []) (false, q, []))))
      (cif (hr b n p = 33) (cif (o = 5) (false, p, []) (cat2 (PR b n u 5 (p + 1) (o + 1)) (fun q => (true, q, [-33]))))
        (cif (nmi u (hr b n p) < 9) (true, p + 1, [nI (10000 + nmi u (hr b n p))])
          (cif (isdg (hr b n p)) (true, (numv b n 4 p 0).1, [(numv b n 4 p 0).2]) (false, p, [])))) :=
  cif_c (fun _ => cif_c (fun _ => rfl) (fun _ => cat2_c (PR_f hn) rfl)) (fun _ => cif_c (fun _ => cif_c (fun _ => rfl) (fun _ => cat2_c (PR_f hn) rfl)) (fun _ => rfl))
theorem PR_6 {b : Nat → Int32} {n u p o : Nat} (hn : n ≤ 50) : PR b n u 6 p o = cif (hr b n p = 124) (cat2 (PR b n u 1 (p + 1) o) (fun q => cat2 (true, q, [-124]) (fun q => PR b n u 6 q o))) (true, p, []) := cif_c (fun _ => cat2_c (PR_f hn) (cat2_c rfl (PR_f hn))) (fun _ => rfl)
theorem PR_7 {b : Nat → Int32} {n u p o : Nat} (hn : n ≤ 50) : PR b n u 7 p o = cif (hr b n p = 38) (cat2 (PR b n u 2 (p + 1) o) (fun q => cat2 (true, q, [-38]) (fun q => PR b n u 7 q o))) (true, p, []) := cif_c (fun _ => cat2_c (PR_f hn) (cat2_c rfl (PR_f hn))) (fun _ => rfl)
theorem PR_8 {b : Nat → Int32} {n u p o : Nat} (hn : n ≤ 50) : PR b n u 8 p o = cif (hr b n p = 43 ∨ hr b n p = 45) (cat2 (PR b n u 4 (p + 1) o) (fun q => cat2 (true, q, [-(hr b n p)]) (fun q => PR b n u 8 q o))) (true, p, []) := cif_c (fun _ => cat2_c (PR_f hn) (cat2_c rfl (PR_f hn))) (fun _ => rfl)
theorem PR_9 {b : Nat → Int32} {n u p o : Nat} (hn : n ≤ 50) : PR b n u 9 p o = cif (hr b n p = 42 ∨ hr b n p = 47 ∨ hr b n p = 37) (cat2 (PR b n u 5 (p + 1) o) (fun q => cat2 (true, q, [-(hr b n p)]) (fun q => PR b n u 9 q o))) (true, p, []) := cif_c (fun _ => cat2_c (PR_f hn) (cat2_c rfl (PR_f hn))) (fun _ => rfl)
theorem cat2_t {r : PT} {k : Nat → PT} (h : (cat2 r k).1 = true) : r.1 = true ∧ (k r.2.1).1 = true ∧ (cat2 r k).2.1 = (k r.2.1).2.1 ∧ (cat2 r k).2.2 = r.2.2 ++ (k r.2.1).2.2 := by
  obtain ⟨ok, q, ps⟩ := r
  cases ok with
  | false => exact absurd h (by intro q; cases q)
  | true =>
    unfold cat2 at h ⊢
    dsimp only at h ⊢
    cases hk : k q with
    | mk ok2 x =>
      obtain ⟨q2, qs⟩ := x
      rw [hk] at h
      cases ok2 with
      | false => exact absurd h (by intro q; cases q)
      | true => exact ⟨rfl, rfl, rfl, rfl⟩
theorem cat2_i {r : PT} {k : Nat → PT} {q q2 : Nat} {ps qs : List Int32} (h1 : r = (true, q, ps)) (h2 : k q = (true, q2, qs)) : cat2 r k = (true, q2, ps ++ qs) := by
  subst h1
  unfold cat2
  dsimp only
  rw [h2]
theorem cat2_f1 {r : PT} {k : Nat → PT} (h : r.1 = false) : cat2 r k = (false, r.2.1, []) := by
  obtain ⟨ok, q, ps⟩ := r
  have h : ok = false := h
  subst h
  rfl
theorem cat2_f2 {r : PT} {k : Nat → PT} (h : r.1 = true) (h2 : (k r.2.1).1 = false) : cat2 r k = (false, (k r.2.1).2.1, []) := by
  obtain ⟨ok, q, ps⟩ := r
  have h : ok = true := h
  subst h
  unfold cat2
  dsimp only at h2 ⊢
  cases hk : k q with
  | mk ok2 x =>
    rw [hk] at h2
    have h2 : ok2 = false := h2
    subst h2
    rfl
noncomputable def jn (s x y : Int32) : Int32 := cif (s = 124) (cif (¬ x = 0 ∨ ¬ y = 0) 1 0) (cif (s = 38) (cif (¬ x = 0 ∧ ¬ y = 0) 1 0) (cif (s = 60) (cif (x < y) 1 0) (cif (s = 61) (cif (x = y) 1 0) (cif (s = 62) (cif (y < x) 1 0) (cif (s = 43) (x + y) (cif (s = 45) (x - y) (cif (s = 42) (x * y) (cif (y = 0) 0 (cif (s = 47) (x / y) (x - x / y * y))))))))))
noncomputable def evT (nm : Nat → Int32) (t : Int32) (st : List Int32) : List Int32 := cif (0 ≤ t) (cif (t < 10000) t (nm (t - 10000).toNatClampNeg) :: st) (cif (t = -33) (match st with
  | x :: r => cif (x = 0) 1 0 :: r
  | [] => []) (match st with
  | y :: x :: r => jn (-t) x y :: r
  | st => st))
noncomputable def evS (nm : Nat → Int32) : List Int32 → List Int32 → List Int32
  | [], st => st
  | t :: r, st => evS nm r (evT nm t st)
theorem evS_app (nm : Nat → Int32) : ∀ (a c : List Int32) (st : List Int32), evS nm (a ++ c) st = evS nm c (evS nm a st)
  | [], _, _ => rfl
  | t :: r, c, st => evS_app nm r c (evT nm t st)
noncomputable def VV (nm : Nat → Int32) (ps : List Int32) : Int32 := (evS nm ps []).headD 0
noncomputable def VX (nm : Nat → Int32) (x : Int32) (ps : List Int32) : Int32 := (evS nm ps [x]).headD 0
def WV (nm : Nat → Int32) (ps : List Int32) : Prop := ∀ st, evS nm ps st = VV nm ps :: st
def WX (nm : Nat → Int32) (ps : List Int32) : Prop := ∀ x st, evS nm ps (x :: st) = VX nm x ps :: st
theorem WV_i {nm : Nat → Int32} {ps : List Int32} {v : Int32} (h : ∀ st, evS nm ps st = v :: st) : WV nm ps ∧ VV nm ps = v := by
  have e : VV nm ps = v := by unfold VV; rw [h]; rfl
  exact ⟨fun st => by rw [h, e], e⟩
theorem WX_i {nm : Nat → Int32} {ps : List Int32} {g : Int32 → Int32} (h : ∀ x st, evS nm ps (x :: st) = g x :: st) : WX nm ps ∧ ∀ x, VX nm x ps = g x := by
  have e : ∀ x, VX nm x ps = g x := fun x => by unfold VX; rw [h]; rfl
  exact ⟨fun x st => by rw [h, e], e⟩
theorem WV_cat {nm : Nat → Int32} {ps qs : List Int32} (h1 : WV nm ps) (h2 : WX nm qs) : WV nm (ps ++ qs) ∧ VV nm (ps ++ qs) = VX nm (VV nm ps) qs := WV_i (fun st => by rw [evS_app, h1, h2])
theorem WX_nil (nm : Nat → Int32) : WX nm [] ∧ ∀ x, VX nm x [] = x := WX_i (fun _ _ => rfl)
theorem WX_op {nm : Nat → Int32} {ps : List Int32} {s : Int32} (h1 : WV nm ps) (hs : ¬ 0 ≤ -s) (hs2 : ¬ -s = -33) : WX nm (ps ++ [-s]) ∧ ∀ x, VX nm x (ps ++ [-s]) = jn s x (VV nm ps) := WX_i (fun x st => by
  rw [evS_app, h1]
  show evT nm (-s) (VV nm ps :: x :: st) = _
  unfold evT
  rw [cif_f hs, cif_f hs2, Int32.neg_neg])
theorem WX_app {nm : Nat → Int32} {ps qs : List Int32} (h1 : WX nm ps) (h2 : WX nm qs) : WX nm (ps ++ qs) ∧ ∀ x, VX nm x (ps ++ qs) = VX nm (VX nm x ps) qs := WX_i (fun x st => by rw [evS_app, h1, h2])
theorem WV_not {nm : Nat → Int32} {ps : List Int32} (h1 : WV nm ps) : WV nm (ps ++ [-33]) ∧ VV nm (ps ++ [-33]) = cif (VV nm ps = 0) 1 0 := WV_i (fun st => by
  rw [evS_app, h1]
  show evT nm (-33) (VV nm ps :: st) = _
  unfold evT
  rw [cif_f (by decide), cif_t rfl])
theorem WV_lit (nm : Nat → Int32) {v : Nat} (hv : v < 10000) : WV nm [nI v] ∧ VV nm [nI v] = nI v := WV_i (fun st => by
  show evT nm (nI v) st = _
  unfold evT
  have g : nI v < (10000 : Int32) := nI_lt (b := 10000) hv (by omega)
  rw [cif_t (nI_pos' (by omega)), cif_t g])
theorem WV_nm (nm : Nat → Int32) {k : Nat} (hk : k < 4) : WV nm [nI (10000 + k)] ∧ VV nm [nI (10000 + k)] = nm k := WV_i (fun st => by
  show evT nm (nI (10000 + k)) st = _
  unfold evT
  have e : (nI (10000 + k) - 10000).toNatClampNeg = k := by
    rw [show (10000 : Int32) = nI 10000 from rfl, pk_sub (by omega), cl (by omega)]
    omega
  have g : ¬ nI (10000 + k) < (10000 : Int32) := nI_nlt (b := 10000) (by omega) (by omega)
  rw [cif_t (nI_pos' (by omega)), cif_f g, e])
