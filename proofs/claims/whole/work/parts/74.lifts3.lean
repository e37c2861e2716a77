/-! ===== the class as one world: sheets, laws, the reader, voices ===== -/
def SHx (A : XA) (F : Nat → Int32) : XW := [.inr (6, [.ref 1, .ref 2, .ref 3]), .inl (0, 4, .inl (A 1)), .inl (0, 4, .inl (A 2)), .inl (2, 4, .inr (.inr (.inr (.inr (KT 4 4))))), .inl (0, 40, .inl (A 4)), .inl (0, 40, .inl (A 5)), .inl (0, 40, .inl (A 6)), .inl (0, 40, .inl (A 7))]
def SHxD : List DC := [.inr (.inr (6, [(0, 1), (0, 2), (0, 3)])), .inl (0, 4), .inl (0, 4), .inr (.inl (4, 4)), .inl (0, 40), .inl (0, 40), .inl (0, 40), .inl (0, 40)]
theorem SHx_dn (A : XA) (F : Nat → Int32) : SHx A F = dn A F 0 SHxD := rfl
def SP65 : List Nat := [65, 66, 67, 68, 69, 70, 71, 72]
/-- sheets with other rows -/
def shA (A : XA) (g : Nat → Nat → Int32) : XA := fun p => bif Nat.ble 4 p && Nat.ble p 7 then g (p - 4) else A p
theorem shA_n {A : XA} {g : Nat → Nat → Int32} {p : Nat} (h : p < 4 ∨ 7 < p) : shA A g p = A p := by
  unfold shA
  cases hb : (Nat.ble 4 p && Nat.ble p 7) with
  | false => rfl
  | true =>
    obtain ⟨h1, h2⟩ := bnd hb
    have h1 := Nat.le_of_ble_eq_true h1
    have h2 := Nat.le_of_ble_eq_true h2
    omega
theorem ckS_W {s t u : Bool} : cq (CWD s t u) SHxD SP65 [] = true := by
  cases s <;> cases t <;> cases u <;> decide +kernel
def sX6_isMissing_W : XS := fun as w post => ∃ (s t u : Bool) (A : XA) (F : Nat → Int32) (h : Nat), as = [.ref 65, .int (nI h)] ∧ w = CW s t u A F ∧ h < 4 ∧ (A 66 h = 0 → post (some (.int 1)) (CW s t u A F)) ∧ (¬ A 66 h = 0 → post (some (.int 0)) (CW s t u A F))
set_option maxRecDepth 10000 in
set_option maxHeartbeats 1000000 in
theorem mX6_isMissing_W (d : Nat) (hd : 0 ≤ d) : xCT d yX6_isMissing cX6_isMissing 2 (some .boolean) sX6_isMissing_W := by
  refine xCT_in (mX6_isMissing d hd) ?_
  rintro as w post ⟨s, t, u, A, F, h, rfl, rfl, hh, h1, h2⟩
  refine ⟨SP65, [.ref 0, .int (nI h)], SHx (adn SP65 A) (fdn [] F), rfl, cq_dn (ckS_W (s := s) (t := t) (u := u)) A F, rfl, A 66, A 67, fun t => adn SP65 A (4 + t), h, rfl, rfl, hh, fun q => cq_id (A := A) (F := F) (Dc := SHxD) (ckS_W (s := s) (t := t) (u := u)) rfl (h1 q), fun q => cq_id (A := A) (F := F) (Dc := SHxD) (ckS_W (s := s) (t := t) (u := u)) rfl (h2 q)⟩
def sX6_size_W : XS := fun as w post => ∃ (s t u : Bool) (A : XA) (F : Nat → Int32) (h : Nat), as = [.ref 65, .int (nI h)] ∧ w = CW s t u A F ∧ h < 4 ∧ ∀ v, v = A 67 h → post (some (.int v)) (CW s t u A F)
set_option maxRecDepth 10000 in
set_option maxHeartbeats 1000000 in
theorem mX6_size_W (d : Nat) (hd : 0 ≤ d) : xCT d yX6_size cX6_size 2 (some .int) sX6_size_W := by
  refine xCT_in (mX6_size d hd) ?_
  rintro as w post ⟨s, t, u, A, F, h, rfl, rfl, hh, h1⟩
  refine ⟨SP65, [.ref 0, .int (nI h)], SHx (adn SP65 A) (fdn [] F), rfl, cq_dn (ckS_W (s := s) (t := t) (u := u)) A F, rfl, A 66, A 67, fun t => adn SP65 A (4 + t), h, rfl, rfl, hh, cq_id (A := A) (F := F) (Dc := SHxD) (ckS_W (s := s) (t := t) (u := u)) rfl (h1 _ rfl)⟩
def sX6_number_W : XS := fun as w post => ∃ (s t u : Bool) (A : XA) (F : Nat → Int32) (h i : Nat), as = [.ref 65, .int (nI h), .int (nI i)] ∧ w = CW s t u A F ∧ h < 4 ∧ i < 40 ∧ ∀ v, v = A (69 + h) i → post (some (.int v)) (CW s t u A F)
set_option maxRecDepth 10000 in
set_option maxHeartbeats 1000000 in
theorem mX6_number_W (d : Nat) (hd : 0 ≤ d) : xCT d yX6_number cX6_number 3 (some .int) sX6_number_W := by
  refine xCT_in (mX6_number d hd) ?_
  rintro as w post ⟨s, t, u, A, F, h, i, rfl, rfl, hh, hi, h1⟩
  refine ⟨SP65, [.ref 0, .int (nI h), .int (nI i)], SHx (adn SP65 A) (fdn [] F), rfl, cq_dn (ckS_W (s := s) (t := t) (u := u)) A F, rfl, A 66, A 67, fun t => adn SP65 A (4 + t), h, i, rfl, rfl, hh, hi, cq_id (A := A) (F := F) (Dc := SHxD) (ckS_W (s := s) (t := t) (u := u)) rfl (h1 _ ?_)⟩
  rcases h4 hh with rfl | rfl | rfl | rfl <;> rfl
def sX6_areAlike_W : XS := fun as w post => ∃ (s t u : Bool) (A : XA) (F : Nat → Int32) (h o : Nat), as = [.ref 65, .int (nI h), .int (nI o)] ∧ w = CW s t u A F ∧ h < 4 ∧ o < 4 ∧ (A 66 h = A 66 o → post (some (.int 1)) (CW s t u A F)) ∧ (¬ A 66 h = A 66 o → post (some (.int 0)) (CW s t u A F))
set_option maxRecDepth 10000 in
set_option maxHeartbeats 1000000 in
theorem mX6_areAlike_W (d : Nat) (hd : 0 ≤ d) : xCT d yX6_areAlike cX6_areAlike 3 (some .boolean) sX6_areAlike_W := by
  refine xCT_in (mX6_areAlike d hd) ?_
  rintro as w post ⟨s, t, u, A, F, h, o, rfl, rfl, hh, ho, h1, h2⟩
  refine ⟨SP65, [.ref 0, .int (nI h), .int (nI o)], SHx (adn SP65 A) (fdn [] F), rfl, cq_dn (ckS_W (s := s) (t := t) (u := u)) A F, rfl, A 66, A 67, fun t => adn SP65 A (4 + t), h, o, rfl, rfl, hh, ho, fun q => cq_id (A := A) (F := F) (Dc := SHxD) (ckS_W (s := s) (t := t) (u := u)) rfl (h1 q), fun q => cq_id (A := A) (F := F) (Dc := SHxD) (ckS_W (s := s) (t := t) (u := u)) rfl (h2 q)⟩
def sX6_stand_W : XS := fun as w post => ∃ (s t u : Bool) (A : XA) (F : Nat → Int32) (h : Nat) (i n : Int32), as = [.ref 65, .int (nI h), .int i, .int n] ∧ w = CW s t u A F ∧ h < 4 ∧ (¬ i < 0 ∧ ¬ n < 0 ∧ i ≤ A 67 h ∧ n ≤ A 67 h - i → post (some (.int 1)) (CW s t u A F)) ∧ (¬ (¬ i < 0 ∧ ¬ n < 0 ∧ i ≤ A 67 h ∧ n ≤ A 67 h - i) → post (some (.int 0)) (CW s t u A F))
set_option maxRecDepth 10000 in
set_option maxHeartbeats 1000000 in
theorem mX6_stand_W (d : Nat) (hd : 0 ≤ d) : xCT d yX6_stand cX6_stand 4 (some .boolean) sX6_stand_W := by
  refine xCT_in (mX6_stand d hd) ?_
  rintro as w post ⟨s, t, u, A, F, h, i, n, rfl, rfl, hh, h1, h2⟩
  refine ⟨SP65, [.ref 0, .int (nI h), .int i, .int n], SHx (adn SP65 A) (fdn [] F), rfl, cq_dn (ckS_W (s := s) (t := t) (u := u)) A F, rfl, A 66, A 67, fun t => adn SP65 A (4 + t), h, i, n, rfl, rfl, hh, fun q => cq_id (A := A) (F := F) (Dc := SHxD) (ckS_W (s := s) (t := t) (u := u)) rfl (h1 q), fun q => cq_id (A := A) (F := F) (Dc := SHxD) (ckS_W (s := s) (t := t) (u := u)) rfl (h2 q)⟩
theorem shA_sm {A : XA} {g : Nat → Nat → Int32} : sm [4, 5, 6, 7] (shA A g) A := by
  intro p hp
  refine shA_n ?_
  rcases Nat.lt_or_ge p 4 with q | q
  · exact Or.inl q
  · rcases Nat.lt_or_ge 7 p with q2 | q2
    · exact Or.inr q2
    · have : p = 4 ∨ p = 5 ∨ p = 6 ∨ p = 7 := by omega
      rcases this with rfl | rfl | rfl | rfl <;> cases hp
def sX6_lay_W : XS := fun as w post => ∃ (s t u : Bool) (A : XA) (F : Nat → Int32) (h : Nat) (b n : Int32), as = [.ref 65, .int (nI h), .int b, .int n] ∧ w = CW s t u A F ∧ h < 4 ∧ ∀ A', sm [66, 67, 69, 70, 71, 72] A' A → A' 66 = upd (A 66) h b → A' 67 = upd (A 67) h n → (∀ o, o < 4 → o ≠ h → A' (69 + o) = A (69 + o)) → (∀ i, i < 40 → A' (69 + h) i = 0) → post none (CW s t u A' F)
set_option maxRecDepth 10000 in
set_option maxHeartbeats 1000000 in
theorem mX6_lay_W (d : Nat) (hd : 1 ≤ d) : xCT d yX6_lay cX6_lay 4 none sX6_lay_W := by
  refine xCT_in (mX6_lay d hd) ?_
  rintro as w post ⟨s, t, u, A, F, h, b, n, rfl, rfl, hh, h1⟩
  refine ⟨SP65, [.ref 0, .int (nI h), .int b, .int n], SHx (adn SP65 A) (fdn [] F), rfl, cq_dn (ckS_W (s := s) (t := t) (u := u)) A F, rfl, A 66, A 67, fun t => adn SP65 A (4 + t), h, b, n, rfl, rfl, hh, ?_⟩
  generalize hg : (fun t' => if t' = h then (fun i => if i < 40 then (0 : Int32) else (fun t => adn SP65 A (4 + t)) h i) else (fun t => adn SP65 A (4 + t)) t') = g
  refine cq_a (A := A) (F := F) (A' := shA (aset (aset (adn SP65 A) 1 (upd (A 66) h b)) 2 (upd (A 67) h n)) g) (Dc := SHxD) (ckS_W (s := s) (t := t) (u := u)) rfl ?_
  refine h1 (apu SP65 (shA (aset (aset (adn SP65 A) 1 (upd (A 66) h b)) 2 (upd (A 67) h n)) g) A) (sm_up (ps := SP65) (l := [1, 2, 4, 5, 6, 7]) (sm_tr (sm_tr (sm_aset (q := 1) rfl) (sm_aset (q := 2) rfl)) (sm_w shA_sm rfl))) rfl rfl (fun o ho hne => ?_) (fun i hi => ?_)
  · have e : g o = adn SP65 A (4 + o) := by rw [← hg]; exact if_neg hne
    rcases h4 ho with rfl | rfl | rfl | rfl <;> exact e
  · have e : g h i = 0 := by
      rw [← hg]
      show (if h = h then (fun i => if i < 40 then (0 : Int32) else adn SP65 A (4 + h) i) else adn SP65 A (4 + h)) i = 0
      rw [if_pos rfl]
      exact if_pos hi
    rcases h4 hh with rfl | rfl | rfl | rfl <;> exact e
def sX6_write_W : XS := fun as w post => ∃ (s t u : Bool) (A : XA) (F : Nat → Int32) (h i : Nat) (v : Int32), as = [.ref 65, .int (nI h), .int (nI i), .int v] ∧ w = CW s t u A F ∧ h < 4 ∧ i < 40 ∧ ∀ A', sm [69, 70, 71, 72] A' A → (∀ o, o < 4 → o ≠ h → A' (69 + o) = A (69 + o)) → A' (69 + h) = upd (A (69 + h)) i (low (A 66 h) v) → post none (CW s t u A' F)
set_option maxRecDepth 10000 in
set_option maxHeartbeats 1000000 in
theorem mX6_write_W (d : Nat) (hd : 0 ≤ d) : xCT d yX6_write cX6_write 4 none sX6_write_W := by
  refine xCT_in (mX6_write d hd) ?_
  rintro as w post ⟨s, t, u, A, F, h, i, v, rfl, rfl, hh, hi, h1⟩
  refine ⟨SP65, [.ref 0, .int (nI h), .int (nI i), .int v], SHx (adn SP65 A) (fdn [] F), rfl, cq_dn (ckS_W (s := s) (t := t) (u := u)) A F, rfl, A 66, A 67, fun t => adn SP65 A (4 + t), h, i, v, rfl, rfl, hh, hi, ?_⟩
  generalize hg : (fun t' => if t' = h then upd ((fun t => adn SP65 A (4 + t)) h) i (low (A 66 h) v) else (fun t => adn SP65 A (4 + t)) t') = g
  refine cq_a (A := A) (F := F) (A' := shA (adn SP65 A) g) (Dc := SHxD) (ckS_W (s := s) (t := t) (u := u)) rfl ?_
  refine h1 (apu SP65 (shA (adn SP65 A) g) A) (sm_up (ps := SP65) (l := [4, 5, 6, 7]) shA_sm) (fun o ho hne => ?_) ?_
  · have e : g o = adn SP65 A (4 + o) := by rw [← hg]; exact if_neg hne
    rcases h4 ho with rfl | rfl | rfl | rfl <;> exact e
  · have e : g h = upd (adn SP65 A (4 + h)) i (low (A 66 h) v) := by rw [← hg]; exact if_pos rfl
    rcases h4 hh with rfl | rfl | rfl | rfl <;> exact e
def sX6_carry_W : XS := fun as w post => ∃ (s t u : Bool) (A : XA) (F : Nat → Int32) (h o i j n : Nat), as = [.ref 65, .int (nI h), .int (nI i), .int (nI o), .int (nI j), .int (nI n)] ∧ w = CW s t u A F ∧ h < 4 ∧ o < 4 ∧ i + n ≤ 40 ∧ j + n ≤ 40 ∧ ∀ A', sm [69, 70, 71, 72] A' A → (∀ p, p < 4 → p ≠ o → A' (69 + p) = A (69 + p)) → A' (69 + o) = va_cpy (A (69 + h)) (A (69 + o)) i j n → post none (CW s t u A' F)
set_option maxRecDepth 10000 in
set_option maxHeartbeats 1000000 in
theorem mX6_carry_W (d : Nat) (hd : 1 ≤ d) : xCT d yX6_carry cX6_carry 6 none sX6_carry_W := by
  refine xCT_in (mX6_carry d hd) ?_
  rintro as w post ⟨s, t, u, A, F, h, o, i, j, n, rfl, rfl, hh, ho, hi, hj, h1⟩
  refine ⟨SP65, [.ref 0, .int (nI h), .int (nI i), .int (nI o), .int (nI j), .int (nI n)], SHx (adn SP65 A) (fdn [] F), rfl, cq_dn (ckS_W (s := s) (t := t) (u := u)) A F, rfl, A 66, A 67, fun t => adn SP65 A (4 + t), h, o, i, j, n, rfl, rfl, hh, ho, hi, hj, ?_⟩
  generalize hg : (fun t' => if t' = o then va_cpy ((fun t => adn SP65 A (4 + t)) h) ((fun t => adn SP65 A (4 + t)) o) i j n else (fun t => adn SP65 A (4 + t)) t') = g
  refine cq_a (A := A) (F := F) (A' := shA (adn SP65 A) g) (Dc := SHxD) (ckS_W (s := s) (t := t) (u := u)) rfl ?_
  refine h1 (apu SP65 (shA (adn SP65 A) g) A) (sm_up (ps := SP65) (l := [4, 5, 6, 7]) shA_sm) (fun p hp hne => ?_) ?_
  · have e : g p = adn SP65 A (4 + p) := by rw [← hg]; exact if_neg hne
    rcases h4 hp with rfl | rfl | rfl | rfl <;> exact e
  · have e : g o = va_cpy (adn SP65 A (4 + h)) (adn SP65 A (4 + o)) i j n := by rw [← hg]; exact if_pos rfl
    rcases h4 hh with rfl | rfl | rfl | rfl <;> rcases h4 ho with rfl | rfl | rfl | rfl <;> exact e
def LP11 : List Nat := [11, 12, 13, 14]
theorem ckL_W {s t u : Bool} : cq (CWD s t u) LWxD LP11 [(90, 20)] = true := by
  cases s <;> cases t <;> cases u <;> decide +kernel
def sX2_isMissing_W : XS := fun as w post => ∃ (s t u : Bool) (A : XA) (F : Nat → Int32), as = [.ref 11] ∧ w = CW s t u A F ∧ (F 20 = 0 → post (some (.int 1)) (CW s t u A F)) ∧ (¬ F 20 = 0 → post (some (.int 0)) (CW s t u A F))
set_option maxRecDepth 10000 in
set_option maxHeartbeats 1000000 in
theorem mX2_isMissing_W (d : Nat) (hd : 0 ≤ d) : xCT d yX2_isMissing cX2_isMissing 1 (some .boolean) sX2_isMissing_W := by
  refine xCT_in (mX2_isMissing d hd) ?_
  rintro as w post ⟨s, t, u, A, F, rfl, rfl, h1, h2⟩
  exact ⟨LP11, [.ref 0], LWx (adn LP11 A) (fdn [(90, 20)] F), rfl, cq_dn (ckL_W (s := s) (t := t) (u := u)) A F, rfl, A 12, A 13, A 14, F 20, rfl, rfl, fun q => cq_id (A := A) (F := F) (Dc := LWxD) (ckL_W (s := s) (t := t) (u := u)) (by decide) (h1 q), fun q => cq_id (A := A) (F := F) (Dc := LWxD) (ckL_W (s := s) (t := t) (u := u)) (by decide) (h2 q)⟩
/-- a law with other scratch -/
def lwA (A : XA) (f g : Nat → Int32) : XA := aset (aset A 2 f) 3 g
def sX2_valueOf_W : XS := fun as w post => ∃ (s t u : Bool) (A : XA) (F : Nat → Int32) (D : Nat → Int32) (a b c e : Int32), as = [.ref 11, .int a, .int b, .int c, .int e] ∧ w = CW s t u A F ∧ CR D (adn CP1 A) F ∧ TXO D 0 ∧ ¬ F 20 = 0 ∧ ∀ A' v, sm [13, 14] A' A → v = addsV D a b c e → post (some (.int v)) (CW s t u A' F)
set_option maxRecDepth 10000 in
set_option maxHeartbeats 1000000 in
theorem mX2_valueOf_W (d : Nat) (hd : 1 ≤ d) : xCT d yX2_valueOf cX2_valueOf 8 (some .int) sX2_valueOf_W := by
  refine xCT_in (mX2_valueOf d hd) ?_
  rintro as w post ⟨s, t, u, A, F, D, a, b, c, e, rfl, rfl, hC, hT, hne, h⟩
  have hL : LH (A 12) (F 20) (tps D 0) := hC.2.2.2.2.2.2.2.2.2.1
  have hps : ¬ tps D 0 = [] := fun q => hne ((LH_z hL).mpr q)
  have ev : VV (nms a b c e) (tps D 0) = addsV D a b c e := by
    have := adV_D hT a b c e
    unfold adV at this
    rw [cif_f hps] at this
    exact this
  refine ⟨LP11, [.ref 0, .int a, .int b, .int c, .int e], LWx (adn LP11 A) (fdn [(90, 20)] F), rfl, cq_dn (ckL_W (s := s) (t := t) (u := u)) A F, rfl, A 12, A 13, A 14, tps D 0, a, b, c, e, VV (nms a b c e) (tps D 0), rfl, by rw [← hL.1]; rfl, hL.2.1, hL.2.2.1, hL.2.2.2.1, LH_ev hL hps _, fun f g => ?_⟩
  rw [← hL.1]
  refine cq_a (A := A) (F := F) (A' := lwA (adn LP11 A) f g) (Dc := LWxD) (ckL_W (s := s) (t := t) (u := u)) (by decide) ?_
  exact h (apu LP11 (lwA (adn LP11 A) f g) A) _ (sm_up (ps := LP11) (l := [2, 3]) (sm_tr (sm_aset (q := 2) rfl) (sm_aset (q := 3) rfl))) ev
def LCWa : List Nat := [11, 12, 13, 14, 76, 77, 78, 79]
theorem ckLCWa {s t u : Bool} : cq (CWD s t u) LLD LCWa [(90, 20), (91, 82)] = true := by
  cases s <;> cases t <;> cases u <;> decide +kernel
def sX2_copyFrom_Wa : XS := fun as w post => ∃ (s t u : Bool) (A : XA) (F : Nat → Int32), as = [.ref 11, .ref 76] ∧ w = CW s t u A F ∧ ∀ A' F', A' = aset A 12 (cpU (A 77) (A 12) 50) → F' 20 = F 82 → fsm [20] F' F → post none (CW s t u A' F')
set_option maxRecDepth 10000 in
set_option maxHeartbeats 1000000 in
theorem mX2_copyFrom_Wa (d : Nat) (hd : 1 ≤ d) : xCT d yX2_copyFrom cX2_copyFrom 2 none sX2_copyFrom_Wa := by
  refine xCT_in (mX2_copyFrom d hd) ?_
  rintro as w post ⟨s, t, u, A, F, rfl, rfl, h⟩
  refine ⟨LCWa, [.ref 0, .ref 4], LL (adn LCWa A) (fdn [(90, 20), (91, 82)] F), rfl, cq_dn (ckLCWa (s := s) (t := t) (u := u)) A F, rfl, A 12, A 13, A 14, A 77, A 78, A 79, F 20, F 82, rfl, rfl, ?_⟩
  refine cq_go (A := A) (F := F) (A' := aset (adn LCWa A) 1 (cpU (A 77) (A 12) 50)) (F' := fset (fdn [(90, 20), (91, 82)] F) 90 (F 82)) (Dc := LLD) (ckLCWa (s := s) (t := t) (u := u)) ?_
  have e1 : apu LCWa (aset (adn LCWa A) 1 (cpU (A 77) (A 12) 50)) A = aset A 12 (cpU (A 77) (A 12) 50) := by
    funext p
    by_cases q : p = 12
    · subst q
      rfl
    · rw [asN q]
      unfold apu
      cases hk : plk LCWa p with
      | none => rfl
      | some j =>
        have hj := plk_some hk
        have hj1 : j ≠ 1 := by
          intro e
          subst e
          exact q (Option.some.inj hj).symm
        show aset (adn LCWa A) 1 _ j = A p
        rw [asN hj1]
        show A (LCWa.getD j 0) = A p
        rw [List.getD_eq_getElem?_getD, hj]
        rfl
  rw [e1]
  exact h _ (fpu [(90, 20), (91, 82)] (fset (fdn [(90, 20), (91, 82)] F) 90 (F 82)) F) rfl rfl (fsm_up (l := [90]) (fm := [(90, 20), (91, 82)]) (F := F) (by decide) (fsm_fset (q := 90) rfl))
def LCWw : List Nat := [15, 16, 17, 18, 76, 77, 78, 79]
theorem ckLCWw {s t u : Bool} : cq (CWD s t u) LLD LCWw [(90, 21), (91, 82)] = true := by
  cases s <;> cases t <;> cases u <;> decide +kernel
def sX2_copyFrom_Ww : XS := fun as w post => ∃ (s t u : Bool) (A : XA) (F : Nat → Int32), as = [.ref 15, .ref 76] ∧ w = CW s t u A F ∧ ∀ A' F', A' = aset A 16 (cpU (A 77) (A 16) 50) → F' 21 = F 82 → fsm [21] F' F → post none (CW s t u A' F')
set_option maxRecDepth 10000 in
set_option maxHeartbeats 1000000 in
theorem mX2_copyFrom_Ww (d : Nat) (hd : 1 ≤ d) : xCT d yX2_copyFrom cX2_copyFrom 2 none sX2_copyFrom_Ww := by
  refine xCT_in (mX2_copyFrom d hd) ?_
  rintro as w post ⟨s, t, u, A, F, rfl, rfl, h⟩
  refine ⟨LCWw, [.ref 0, .ref 4], LL (adn LCWw A) (fdn [(90, 21), (91, 82)] F), rfl, cq_dn (ckLCWw (s := s) (t := t) (u := u)) A F, rfl, A 16, A 17, A 18, A 77, A 78, A 79, F 21, F 82, rfl, rfl, ?_⟩
  refine cq_go (A := A) (F := F) (A' := aset (adn LCWw A) 1 (cpU (A 77) (A 16) 50)) (F' := fset (fdn [(90, 21), (91, 82)] F) 90 (F 82)) (Dc := LLD) (ckLCWw (s := s) (t := t) (u := u)) ?_
  have e1 : apu LCWw (aset (adn LCWw A) 1 (cpU (A 77) (A 16) 50)) A = aset A 16 (cpU (A 77) (A 16) 50) := by
    funext p
    by_cases q : p = 16
    · subst q
      rfl
    · rw [asN q]
      unfold apu
      cases hk : plk LCWw p with
      | none => rfl
      | some j =>
        have hj := plk_some hk
        have hj1 : j ≠ 1 := by
          intro e
          subst e
          exact q (Option.some.inj hj).symm
        show aset (adn LCWw A) 1 _ j = A p
        rw [asN hj1]
        show A (LCWw.getD j 0) = A p
        rw [List.getD_eq_getElem?_getD, hj]
        rfl
  rw [e1]
  exact h _ (fpu [(90, 21), (91, 82)] (fset (fdn [(90, 21), (91, 82)] F) 90 (F 82)) F) rfl rfl (fsm_up (l := [90]) (fm := [(90, 21), (91, 82)]) (F := F) (by decide) (fsm_fset (q := 90) rfl))
def RT75 : List Nat := [75, 76, 77, 78, 79, 80, 9]
theorem ckT_W {s t u : Bool} : cq (CWD s t u) (RTD u) RT75 FM3 = true := by
  cases s <;> cases t <;> cases u <;> decide +kernel
theorem dgT_W {s t u v : Bool} : dag RT75 0 (CWD s t u) (CWD s t v) = true := by
  cases s <;> cases t <;> cases u <;> cases v <;> decide +kernel
def sX3_faultOf_W : XS := fun as w post => ∃ (s t u : Bool) (A : XA) (F : Nat → Int32) (b : Nat → Int32) (n : Nat) (v : Bool), as = [.ref 75, .ref 9, .int (nI n), .int (nI (uN v))] ∧ w = CW s t u A F ∧ n ≤ 50 ∧ sb_Fit (A 9) ∧ (∀ j, j < n → A 9 j &&& 255 = b j) ∧ ∀ r, r = PR b n (uN v) 0 0 0 →
  (r.1 = true → r.2.1 = n → ∀ A' F', sm [77, 80] A' A → F' 82 = nI r.2.2.length → (∀ i (h : i < r.2.2.length), A' 77 i = r.2.2[i]) → fsm [80, 81, 82] F' F → post (some (.int (-1))) (CW s t v A' F')) ∧
  (¬ (r.1 = true ∧ r.2.1 = n) → ∀ A' F', sm [77, 80] A' A → fsm [80, 81, 82] F' F → post (some (.int (nI r.2.1))) (CW s t v A' F'))
set_option maxRecDepth 10000 in
set_option maxHeartbeats 1000000 in
theorem mX3_faultOf_W (d : Nat) (hd : 55 ≤ d) : xCT d yX3_faultOf cX3_faultOf 4 (some .int) sX3_faultOf_W := by
  refine xCT_in (mX3_faultOf d hd) ?_
  rintro as w post ⟨s, t, u, A, F, b, n, v, rfl, rfl, hn, hfit, hb, h⟩
  have f3 : ∀ F2 : Nat → Int32, (∀ q, q < 80 ∨ 82 < q → F2 q = fdn FM3 F q) → fsm [80, 81, 82] (fpu FM3 F2 F) F := fun F2 h => fsm_up (l := [80, 81, 82]) (by decide) (fun q hq => h q (by
    rcases Nat.lt_or_ge q 80 with g | g
    · exact Or.inl g
    · rcases Nat.lt_or_ge 82 q with g2 | g2
      · exact Or.inr g2
      · have : q = 80 ∨ q = 81 ∨ q = 82 := by omega
        rcases this with rfl | rfl | rfl <;> cases hq))
  refine ⟨RT75, [.ref 0, .ref 6, .int (nI n), .int (nI (uN v))], RT u (adn RT75 A) (fdn FM3 F), rfl, cq_dn (ckT_W (s := s) (t := t) (u := u)) A F, rfl, u, adn RT75 A, fdn FM3 F, b, n, v, rfl, rfl, hn, hfit, hb, fun r hr => ⟨fun ok e A2 F2 hS h82 hp hF => ?_, fun hno A2 F2 hS hF => ?_⟩⟩
  · refine cq_go2 (A := A) (F := F) (A' := A2) (F' := F2) (ckT_W (s := s) (t := t) (u := v)) dgT_W ?_
    exact (h r hr).1 ok e (apu RT75 A2 A) (fpu FM3 F2 F) (sm_up (ps := RT75) hS) h82 hp (f3 F2 hF)
  · refine cq_go2 (A := A) (F := F) (A' := A2) (F' := F2) (ckT_W (s := s) (t := t) (u := v)) dgT_W ?_
    exact (h r hr).2 hno (apu RT75 A2 A) (fpu FM3 F2 F) (sm_up (ps := RT75) hS) (f3 F2 hF)
def VP73 : List Nat := [73, 74, 1, 2, 3, 4, 5, 6, 7, 8, 9, 10, 11, 12, 13, 14, 15, 16, 17, 18]
def VFm : List (Nat × Nat) := [(70, 70), (71, 71), (72, 72), (73, 73), (11, 11), (12, 12), (13, 13), (14, 14), (15, 15), (16, 16), (20, 20), (21, 21)]
theorem fckVF : fck VFm = true := by decide
theorem ckV_W {s t u : Bool} : cq (CWD s t u) VCD VP73 VFm = true := by
  cases s <;> cases t <;> cases u <;> decide +kernel
def sX8_sound_W : XS := fun as w post => ∃ (s t u : Bool) (A : XA) (F : Nat → Int32) (D : Nat → Int32) (σ : VS) (n k i a act : Nat) (x : Int32), as = [.ref 73, .ref 1, .int (nI i), .int (nI act), .int x] ∧ w = CW s t u A F ∧ DI D n k ∧ CR D (adn CP1 A) F ∧ i < k ∧ act < 4 ∧ D (8 + 8 * i + 0) = nI a ∧ a < 7 ∧ σ.1 14 = A 74 ∧ σ.2 24 = 0 ∧
  ∀ ρ A' F', ρ = gv act i a (D (8 + 8 * i + 1)) a x σ → bd (ρ.2.2 24) 41 → A' = aset A 74 (ρ.2.1 14) → F' 70 = ρ.2.2 24 → fsm [70, 71, 72, 73] F' F → post (some (.int ρ.1)) (CW s t u A' F')
set_option maxRecDepth 10000 in
set_option maxHeartbeats 1000000 in
theorem mX8_sound_W (d : Nat) (hd : 29 ≤ d) : xCT d yX8_sound cX8_sound 5 (some .int) sX8_sound_W := by
  refine xCT_in (mX8_sound d hd) ?_
  rintro as w post ⟨s, t, u, A, F, D, σ, n, k, i, a, act, x, rfl, rfl, hI, hC, hi, hact, ea, ha, h14, h24, h⟩
  refine ⟨VP73, [.ref 0, .ref 2, .int (nI i), .int (nI act), .int x], VC (adn VP73 A) (fdn VFm F), rfl, cq_dn (ckV_W (s := s) (t := t) (u := u)) A F, rfl, adn VP73 A, fdn VFm F, D, σ, n, k, i, a, act, x, rfl, rfl, hI, hC, hi, hact, ea, ha, h14, h24, fun ρ F2 hρ hb h70 hF => ?_⟩
  refine cq_go (A := A) (F := F) (A' := aset (adn VP73 A) 1 (ρ.2.1 14)) (F' := F2) (ckV_W (s := s) (t := t) (u := u)) ?_
  have e1 : apu VP73 (aset (adn VP73 A) 1 (ρ.2.1 14)) A = aset A 74 (ρ.2.1 14) := by
    funext p
    by_cases q : p = 74
    · subst q
      rfl
    · rw [asN q]
      unfold apu
      cases hk : plk VP73 p with
      | none => rfl
      | some j =>
        have hj := plk_some hk
        have hj1 : j ≠ 1 := by
          intro e
          subst e
          exact q (Option.some.inj hj).symm
        show aset (adn VP73 A) 1 _ j = A p
        rw [asN hj1]
        show A (VP73.getD j 0) = A p
        rw [List.getD_eq_getElem?_getD, hj]
        rfl
  rw [e1]
  refine h ρ _ (fpu VFm F2 F) hρ hb rfl h70 (fsm_up (l := [70, 71, 72, 73]) fckVF (fun q hq => hF q ?_))
  rcases Nat.lt_or_ge q 70 with g | g
  · exact Or.inl g
  · rcases Nat.lt_or_ge 73 q with g2 | g2
    · exact Or.inr g2
    · have : q = 70 ∨ q = 71 ∨ q = 72 ∨ q = 73 := by omega
      rcases this with rfl | rfl | rfl | rfl <;> cases hq
