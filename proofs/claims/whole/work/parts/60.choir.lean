/-! ===== the class: sheets are written, the choir is changed ===== -/
def sX6_write : XS := fun as w post => ∃ (B Z : Nat → Int32) (g : Nat → Nat → Int32) (h i : Nat) (v : Int32), as = [.ref 0, .int (nI h), .int (nI i), .int v] ∧ w = SH B Z g ∧ h < 4 ∧ i < 40 ∧ post none (SH B Z (fun t => if t = h then upd (g h) i (low (B h) v) else g t))
theorem shset {B Z : Nat → Int32} {g : Nat → Nat → Int32} {u u' : Nat → Int32} (h : u = u') : (List.set (SH B Z g) (4 + 0) (.inl (0, 40, .inl u)) = SH B Z (fun t => if t = 0 then u' else g t)) ∧ (List.set (SH B Z g) (4 + 1) (.inl (0, 40, .inl u)) = SH B Z (fun t => if t = 1 then u' else g t)) ∧ (List.set (SH B Z g) (4 + 2) (.inl (0, 40, .inl u)) = SH B Z (fun t => if t = 2 then u' else g t)) ∧ (List.set (SH B Z g) (4 + 3) (.inl (0, 40, .inl u)) = SH B Z (fun t => if t = 3 then u' else g t)) := by
  subst h
  exact ⟨rfl, rfl, rfl, rfl⟩
set_option maxRecDepth 10000 in
set_option maxHeartbeats 1000000 in
theorem mX6_write (d : Nat) (hd : 0 ≤ d) : xCT d yX6_write cX6_write 4 none sX6_write := by
  refine xmet0 (tb := tX6_write) (fl := fX6) (kc := nX6) (gs := g0) (cl := xlk []) 400 (by decide) tX6_write_ok fX6_ok nX6_ok g0_ok xg_nil ?_
  rintro L xs as w Qp ⟨B, Z, g, h, i, v, rfl, rfl, hh, hi, h1⟩
  refine ⟨Nat.le_of_ble_eq_true rfl, ?_⟩
  have eh : (nI h).toNatClampNeg = h := cl (by omega)
  have ei : (nI i).toNatClampNeg = i := cl (by omega)
  have ih : vp_in (nI h) 4 := vp_in_nI (by omega) (by decide)
  have ii : vp_in (nI i) 40 := vp_in_nI (by omega) (by decide)
  refine And.intro ih ?_
  have e8 : ∀ x : Int32, x.toInt = 8 ↔ x = 8 := fun x => ⟨fun q => tI 8 (by decide) q, fun q => by rw [q]; decide⟩
  have e16 : ∀ x : Int32, x.toInt = 16 ↔ x = 16 := fun x => ⟨fun q => tI 16 (by decide) q, fun q => by rw [q]; decide⟩
  have el : ∀ x, x = low (B h) v → upd (g h) (nI i).toNatClampNeg x = upd (g h) i (low (B h) v) := by
    rintro x rfl
    rw [ei]
  refine And.intro (fun q => ?_) (fun q => And.intro (fun q2 => ?_) (fun q2 => ?_))
  · have q := (e8 _).mp q
    rw [eh] at q
    refine And.intro ih ?_
    have e : v.toInt8.toInt32 = low (B h) v := (cif_t q).symm
    rcases h4 hh with rfl | rfl | rfl | rfl
    · refine ⟨4 + 0, rfl, ?_⟩
      refine And.intro ii ?_
      have h9 := h1
      rw [← (shset (el _ e)).1] at h9
      exact h9
    · refine ⟨4 + 1, rfl, ?_⟩
      refine And.intro ii ?_
      have h9 := h1
      rw [← (shset (el _ e)).2.1] at h9
      exact h9
    · refine ⟨4 + 2, rfl, ?_⟩
      refine And.intro ii ?_
      have h9 := h1
      rw [← (shset (el _ e)).2.2.1] at h9
      exact h9
    · refine ⟨4 + 3, rfl, ?_⟩
      refine And.intro ii ?_
      have h9 := h1
      rw [← (shset (el _ e)).2.2.2] at h9
      exact h9
  · have q := fun e => q ((e8 _).mpr e)
    have q2 := (e16 _).mp q2
    rw [eh] at q q2
    refine And.intro ih ?_
    have e : v.toInt16.toInt32 = low (B h) v := ((cif_f q).trans (cif_t q2)).symm
    rcases h4 hh with rfl | rfl | rfl | rfl
    · refine ⟨4 + 0, rfl, ?_⟩
      refine And.intro ii ?_
      have h9 := h1
      rw [← (shset (el _ e)).1] at h9
      exact h9
    · refine ⟨4 + 1, rfl, ?_⟩
      refine And.intro ii ?_
      have h9 := h1
      rw [← (shset (el _ e)).2.1] at h9
      exact h9
    · refine ⟨4 + 2, rfl, ?_⟩
      refine And.intro ii ?_
      have h9 := h1
      rw [← (shset (el _ e)).2.2.1] at h9
      exact h9
    · refine ⟨4 + 3, rfl, ?_⟩
      refine And.intro ii ?_
      have h9 := h1
      rw [← (shset (el _ e)).2.2.2] at h9
      exact h9
  · have q := fun e => q ((e8 _).mpr e)
    have q2 := fun e => q2 ((e16 _).mpr e)
    rw [eh] at q q2
    refine And.intro ih ?_
    have e : v = low (B h) v := ((cif_f q).trans (cif_f q2)).symm
    rcases h4 hh with rfl | rfl | rfl | rfl
    · refine ⟨4 + 0, rfl, ?_⟩
      refine And.intro ii ?_
      have h9 := h1
      rw [← (shset (el _ e)).1] at h9
      exact h9
    · refine ⟨4 + 1, rfl, ?_⟩
      refine And.intro ii ?_
      have h9 := h1
      rw [← (shset (el _ e)).2.1] at h9
      exact h9
    · refine ⟨4 + 2, rfl, ?_⟩
      refine And.intro ii ?_
      have h9 := h1
      rw [← (shset (el _ e)).2.2.1] at h9
      exact h9
    · refine ⟨4 + 3, rfl, ?_⟩
      refine And.intro ii ?_
      have h9 := h1
      rw [← (shset (el _ e)).2.2.2] at h9
      exact h9
def sX6_carry : XS := fun as w post => ∃ (B Z : Nat → Int32) (g : Nat → Nat → Int32) (h o i j n : Nat), as = [.ref 0, .int (nI h), .int (nI i), .int (nI o), .int (nI j), .int (nI n)] ∧ w = SH B Z g ∧ h < 4 ∧ o < 4 ∧ i + n ≤ 40 ∧ j + n ≤ 40 ∧ post none (SH B Z (fun t => if t = o then va_cpy (g h) (g o) i j n else g t))
set_option maxRecDepth 10000 in
set_option maxHeartbeats 1000000 in
theorem mX6_carry (d : Nat) (hd : 1 ≤ d) : xCT d yX6_carry cX6_carry 6 none sX6_carry := by
  obtain ⟨d, rfl⟩ : ∃ e, d = e + 1 := ⟨d - 1, by omega⟩
  refine xmet0 (tb := tX6_carry) (fl := fX6) (kc := nX6) (gs := g0) (cl := xlk [(29, false, 5, xCpy)]) 400 (by decide) tX6_carry_ok fX6_ok nX6_ok g0_ok (xg_cons (k_X6_29_copy (xrm_ok d)) xg_nil) ?_
  rintro L xs as w Qp ⟨B, Z, g, h, o, i, j, n, rfl, rfl, hh, ho, hi, hj, h1⟩
  refine ⟨Nat.le_of_ble_eq_true rfl, ?_⟩
  have ei : (nI i).toNatClampNeg = i := cl (by omega)
  have ej : (nI j).toNatClampNeg = j := cl (by omega)
  have en : (nI n).toNatClampNeg = n := cl (by omega)
  have ih : vp_in (nI h) 4 := vp_in_nI (by omega) (by decide)
  have io : vp_in (nI o) 4 := vp_in_nI (by omega) (by decide)
  have np : ∀ a : Nat, a < 2 ^ 31 → ¬ nI a < 0 := fun a ha q => (fa_of_lt q).2.1 (nI_pos' ha)
  have cc : ¬ nI i < 0 ∧ ¬ nI j < 0 ∧ ¬ nI n < 0 ∧ (nI i).toNatClampNeg + (nI n).toNatClampNeg ≤ 40 ∧ (nI j).toNatClampNeg + (nI n).toNatClampNeg ≤ 40 := ⟨np i (by omega), np j (by omega), np n (by omega), by rw [ei, en]; exact hi, by rw [ej, en]; exact hj⟩
  have ev : ∀ f k : Nat → Int32, va_cpy f k (nI i).toNatClampNeg (nI j).toNatClampNeg (nI n).toNatClampNeg = va_cpy f k i j n := fun f k => by rw [ei, ej, en]
  refine And.intro ih ?_
  rcases h4 hh with rfl | rfl | rfl | rfl
  · refine ⟨4 + 0, rfl, ?_⟩
    refine And.intro io ?_
    rcases h4 ho with rfl | rfl | rfl | rfl
    · refine ⟨4 + 0, rfl, ?_⟩
      refine And.intro cc ?_
      have h9 := h1
      rw [← (shset (ev _ _)).1] at h9
      exact h9
    · refine ⟨4 + 1, rfl, ?_⟩
      refine And.intro cc ?_
      have h9 := h1
      rw [← (shset (ev _ _)).2.1] at h9
      exact h9
    · refine ⟨4 + 2, rfl, ?_⟩
      refine And.intro cc ?_
      have h9 := h1
      rw [← (shset (ev _ _)).2.2.1] at h9
      exact h9
    · refine ⟨4 + 3, rfl, ?_⟩
      refine And.intro cc ?_
      have h9 := h1
      rw [← (shset (ev _ _)).2.2.2] at h9
      exact h9
  · refine ⟨4 + 1, rfl, ?_⟩
    refine And.intro io ?_
    rcases h4 ho with rfl | rfl | rfl | rfl
    · refine ⟨4 + 0, rfl, ?_⟩
      refine And.intro cc ?_
      have h9 := h1
      rw [← (shset (ev _ _)).1] at h9
      exact h9
    · refine ⟨4 + 1, rfl, ?_⟩
      refine And.intro cc ?_
      have h9 := h1
      rw [← (shset (ev _ _)).2.1] at h9
      exact h9
    · refine ⟨4 + 2, rfl, ?_⟩
      refine And.intro cc ?_
      have h9 := h1
      rw [← (shset (ev _ _)).2.2.1] at h9
      exact h9
    · refine ⟨4 + 3, rfl, ?_⟩
      refine And.intro cc ?_
      have h9 := h1
      rw [← (shset (ev _ _)).2.2.2] at h9
      exact h9
  · refine ⟨4 + 2, rfl, ?_⟩
    refine And.intro io ?_
    rcases h4 ho with rfl | rfl | rfl | rfl
    · refine ⟨4 + 0, rfl, ?_⟩
      refine And.intro cc ?_
      have h9 := h1
      rw [← (shset (ev _ _)).1] at h9
      exact h9
    · refine ⟨4 + 1, rfl, ?_⟩
      refine And.intro cc ?_
      have h9 := h1
      rw [← (shset (ev _ _)).2.1] at h9
      exact h9
    · refine ⟨4 + 2, rfl, ?_⟩
      refine And.intro cc ?_
      have h9 := h1
      rw [← (shset (ev _ _)).2.2.1] at h9
      exact h9
    · refine ⟨4 + 3, rfl, ?_⟩
      refine And.intro cc ?_
      have h9 := h1
      rw [← (shset (ev _ _)).2.2.2] at h9
      exact h9
  · refine ⟨4 + 3, rfl, ?_⟩
    refine And.intro io ?_
    rcases h4 ho with rfl | rfl | rfl | rfl
    · refine ⟨4 + 0, rfl, ?_⟩
      refine And.intro cc ?_
      have h9 := h1
      rw [← (shset (ev _ _)).1] at h9
      exact h9
    · refine ⟨4 + 1, rfl, ?_⟩
      refine And.intro cc ?_
      have h9 := h1
      rw [← (shset (ev _ _)).2.1] at h9
      exact h9
    · refine ⟨4 + 2, rfl, ?_⟩
      refine And.intro cc ?_
      have h9 := h1
      rw [← (shset (ev _ _)).2.2.1] at h9
      exact h9
    · refine ⟨4 + 3, rfl, ?_⟩
      refine And.intro cc ?_
      have h9 := h1
      rw [← (shset (ev _ _)).2.2.2] at h9
      exact h9
