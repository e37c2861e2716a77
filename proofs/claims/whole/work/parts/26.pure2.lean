/-! ===== texts: names, values of uses ===== -/
theorem PP_all (b : Nat → Int32) (n u : Nat) (Q : Int32 → Prop) (hop : ∀ s, isop s → Q (-s)) (hnot : Q (-33)) (hlit : ∀ v : Nat, v < 10000 → Q (nI v)) (hnm : ∀ x, nmi u x < 9 → Q (nI (10000 + nmi u x))) : ∀ f c p o, ∀ t ∈ (PP b n u f c p o).2.2, Q t := by
  have two : ∀ {r : PT} {k : Nat → PT}, (∀ t ∈ r.2.2, Q t) → (∀ q, ∀ t ∈ (k q).2.2, Q t) → ∀ t ∈ (cat2 r k).2.2, Q t := by
    intro r k h1 h2 t ht
    obtain ⟨ok, q, ps⟩ := r
    cases ok with
    | false => exact absurd ht List.not_mem_nil
    | true =>
      have h3 := h2 q
      unfold cat2 at ht
      dsimp only at ht
      cases hk : k q with
      | mk ok2 x =>
        obtain ⟨q2, qs⟩ := x
        rw [hk] at ht h3
        cases ok2 with
        | false => exact absurd ht List.not_mem_nil
        | true =>
          rcases List.mem_append.mp ht with ht | ht
          · exact h1 t ht
          · exact h3 t ht
  have one : ∀ (q : Nat) (s : Int32), Q s → ∀ t ∈ ((true, q, [s]) : PT).2.2, Q t := fun q s hs t ht => by rw [List.mem_singleton.mp ht]; exact hs
  have nil : ∀ (ok : Bool) (q : Nat), ∀ t ∈ ((ok, q, []) : PT).2.2, Q t := fun _ _ t ht => absurd ht List.not_mem_nil
  intro f
  induction f with
  | zero => intro c p o t ht; exact absurd ht List.not_mem_nil
  | succ f ih =>
    intro c p o
    match c with
    | 0 => exact two (ih _ _ _) (fun q => ih _ _ _)
    | 1 => exact two (ih _ _ _) (fun q => ih _ _ _)
    | 2 => exact two (ih _ _ _) (fun q => cif_p (P := fun x : PT => ∀ t ∈ x.2.2, Q t) (fun g => two (ih _ _ _) (fun q2 => one q2 _ (hop _ (by rcases g with g | g | g <;> rw [g] <;> unfold isop <;> simp)))) (fun _ => nil _ _))
    | 3 => exact two (ih _ _ _) (fun q => ih _ _ _)
    | 4 => exact two (ih _ _ _) (fun q => ih _ _ _)
    | 5 =>
      refine cif_p (P := fun x : PT => ∀ t ∈ x.2.2, Q t) (fun _ => cif_p (P := fun x : PT => ∀ t ∈ x.2.2, Q t) (fun _ => nil _ _) (fun _ => two (ih _ _ _) (fun q => cif_p (P := fun x : PT => ∀ t ∈ x.2.2, Q t) (fun _ => nil _ _) (fun _ => nil _ _)))) (fun _ => ?_)
      refine cif_p (P := fun x : PT => ∀ t ∈ x.2.2, Q t) (fun _ => cif_p (P := fun x : PT => ∀ t ∈ x.2.2, Q t) (fun _ => nil _ _) (fun _ => two (ih _ _ _) (fun q => one q _ hnot))) (fun _ => ?_)
      refine cif_p (P := fun x : PT => ∀ t ∈ x.2.2, Q t) (fun g => one _ _ (hnm _ g)) (fun _ => cif_p (P := fun x : PT => ∀ t ∈ x.2.2, Q t) (fun g => ?_) (fun _ => nil _ _))
      obtain ⟨j, hj, ej⟩ := numv_val b n 4 p 0 (by decide)
      have ej : (numv b n 4 p 0).2 = nI j := ej
      exact one _ _ (by rw [ej]; exact hlit j (by omega))
    | 6 => exact cif_p (P := fun x : PT => ∀ t ∈ x.2.2, Q t) (fun g => two (ih _ _ _) (fun q => two (one q _ (hop _ (by unfold isop; simp))) (fun q => ih _ _ _))) (fun _ => nil _ _)
    | 7 => exact cif_p (P := fun x : PT => ∀ t ∈ x.2.2, Q t) (fun g => two (ih _ _ _) (fun q => two (one q _ (hop _ (by unfold isop; simp))) (fun q => ih _ _ _))) (fun _ => nil _ _)
    | 8 => exact cif_p (P := fun x : PT => ∀ t ∈ x.2.2, Q t) (fun g => two (ih _ _ _) (fun q => two (one q _ (hop _ (by rcases g with g | g <;> rw [g] <;> unfold isop <;> simp))) (fun q => ih _ _ _))) (fun _ => nil _ _)
    | c + 9 => exact cif_p (P := fun x : PT => ∀ t ∈ x.2.2, Q t) (fun g => two (ih _ _ _) (fun q => two (one q _ (hop _ (by rcases g with g | g | g <;> rw [g] <;> unfold isop <;> simp))) (fun q => ih _ _ _))) (fun _ => nil _ _)
/-- names below c -/
def tnm (c : Nat) (t : Int32) : Prop := 0 ≤ t → ¬ t < 10000 → ∃ k : Nat, k < c ∧ t = nI (10000 + k)
theorem tnm_of {b : Nat → Int32} {n u f c p o cc : Nat} (hc : ∀ x, nmi u x < 9 → nmi u x < cc) : ∀ t ∈ (PP b n u f c p o).2.2, tnm cc t :=
  PP_all b n u (tnm cc) (fun s hs h => absurd h (isop_n hs).1) (fun h => absurd h (by decide)) (fun v hv _ h => absurd (nI_lt (b := 10000) hv (by omega)) h) (fun x hx _ _ => ⟨_, hc x hx, rfl⟩) f c p o
theorem nmi2 {x : Int32} (h : nmi 1 x < 9) : nmi 1 x < 2 := by
  have e : nmi 1 x = cif (x = 110) 0 (cif (x = 107) 1 9) := cif_t rfl
  rw [e] at h ⊢
  revert h
  exact cif_p (P := fun y : Nat => y < 9 → y < 2) (fun _ _ => by omega) (fun _ => cif_p (P := fun y : Nat => y < 9 → y < 2) (fun _ _ => by omega) (fun _ h => by omega))
theorem evS_cg {nm nm' : Nat → Int32} {c : Nat} (hc4 : c ≤ 4) (hn : ∀ i, i < c → nm i = nm' i) : ∀ (ps : List Int32), (∀ t ∈ ps, tnm c t) → ∀ st, evS nm ps st = evS nm' ps st
  | [], _, _ => rfl
  | t :: r, h, st => by
    show evS nm r (evT nm t st) = evS nm' r (evT nm' t st)
    have e : evT nm t st = evT nm' t st := by
      unfold evT
      refine cif_c (fun g => ?_) (fun _ => rfl)
      congr 1
      refine cif_c (fun _ => rfl) (fun g2 => ?_)
      obtain ⟨k, hk, rfl⟩ := h t List.mem_cons_self g g2
      have e : (nI (10000 + k) - 10000).toNatClampNeg = k := by
        rw [show (10000 : Int32) = nI 10000 from rfl, pk_sub (by omega), cl (by omega)]
        omega
      rw [e]
      exact hn k hk
    rw [e]
    exact evS_cg hc4 hn r (fun t ht => h t (List.mem_cons_of_mem _ ht)) _
theorem VV_cg {nm nm' : Nat → Int32} {c : Nat} {ps : List Int32} (hc4 : c ≤ 4) (hn : ∀ i, i < c → nm i = nm' i) (h : ∀ t ∈ ps, tnm c t) : VV nm ps = VV nm' ps := by unfold VV; rw [evS_cg hc4 hn ps h]
def nms (a b c e : Int32) : Nat → Int32 := fun i => if i = 0 then a else if i = 1 then b else if i = 2 then c else e
/-- the text of a use is one -/
def TXO (d : Nat → Int32) (u : Nat) : Prop := d (72 + u) = 0 ∨ ((PR (fun j => d (96 + 50 * u + j)) (d (72 + u)).toNatClampNeg u 0 0 0).1 = true ∧ (PR (fun j => d (96 + 50 * u + j)) (d (72 + u)).toNatClampNeg u 0 0 0).2.1 = (d (72 + u)).toNatClampNeg)
noncomputable def addsV (d : Nat → Int32) (a b c e : Int32) : Int32 := cif (d 72 = 0) 0 (VV (nms a b c e) (PR (fun j => d (96 + j)) (d 72).toNatClampNeg 0 0 0 0).2.2)
noncomputable def clampV (v : Int32) : Int32 := cif (v < -999) (-999) (cif (999 < v) 999 v)
noncomputable def worthV (d : Nat → Int32) (a b : Int32) : Int32 := clampV (cif (d 73 = 0) a (VV (nms a b 0 0) (PR (fun j => d (146 + j)) (d 73).toNatClampNeg 1 0 0 0).2.2))
/-- c bytes of the tape become the text of a use, whose length is n -/
def txtD (d : Nat → Int32) (u n c : Nat) : Nat → Int32 := fun j => if j = 72 + u then nI n else if 96 + 50 * u ≤ j ∧ j < 96 + 50 * u + c then d (196 + (j - (96 + 50 * u))) else d j
noncomputable def qtext (use : Int32) (A : XA) (F : Nat → Int32) : XR := cif (0 ≤ use ∧ use ≤ 1) (cif ((PR (bb A 196) (A 1 4).toNatClampNeg use.toNatClampNeg 0 0 0).1 = true ∧ (PR (bb A 196) (A 1 4).toNatClampNeg use.toNatClampNeg 0 0 0).2.1 = (A 1 4).toNatClampNeg) (1, aset A 1 (txtD (upd (A 1) 4 0) use.toNatClampNeg (A 1 4).toNatClampNeg (A 1 4).toNatClampNeg), F) (-10 - nI (PR (bb A 196) (A 1 4).toNatClampNeg use.toNatClampNeg 0 0 0).2.1, aset A 1 (upd (A 1) 4 0), F)) (eR 1 A F)
noncomputable def qlaw (use a b c e : Int32) (A : XA) (F : Nat → Int32) : XR := cif (use = 0) (addsV (A 1) a b c e, A, F) (cif (use = 1) (worthV (A 1) a b, A, F) (eR 1 A F))
