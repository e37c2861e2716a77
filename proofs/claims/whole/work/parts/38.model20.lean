/-! ===== the reference: placeOf, findRound, round ===== -/
/-- the place o steps on from where v belongs -/
def hp (v o : Nat) : Nat := (v + o) % 2048
theorem hp_lt (v o : Nat) : hp v o < 2048 := Nat.mod_lt _ (by decide)
theorem hp_s (v o : Nat) : (hp v o + 1) % 2048 = hp v (o + 1) := by unfold hp; omega
theorem nI_inj {a b : Nat} (ha : a < 2 ^ 31) (hb : b < 2 ^ 31) (h : nI a = nI b) : a = b := by
  have := congrArg Int32.toNatClampNeg h
  rw [cl ha, cl hb] at this
  exact this
theorem lead_all {p : Nat → Prop} : ∀ {c : Nat}, lead p c = c → ∀ j, j < c → p j
  | 0, _, j, hj => absurd hj (Nat.not_lt_zero _)
  | c + 1, h, j, hj => by
    by_cases g : lead p c = c ∧ p c
    · by_cases q : j = c
      · subst q
        exact g.2
      · exact lead_all g.1 j (by omega)
    · have h : cif (lead p c = c ∧ p c) (c + 1) (lead p c) = c + 1 := h
      rw [cif_f g] at h
      have h2 : ∀ m, lead p m ≤ m := by
        intro m
        induction m with
        | zero => exact Nat.le_refl _
        | succ m ih =>
          unfold lead
          by_cases q : lead p m = m ∧ p m
          · rw [cif_t q]
            exact Nat.le_refl _
          · rw [cif_f q]
            omega
      have := h2 c
      omega
theorem lead_of {p : Nat → Prop} : ∀ {c : Nat}, (∀ j, j < c → p j) → lead p c = c
  | 0, _ => rfl
  | c + 1, h => lead_go (lead_of (fun j hj => h j (by omega))) (h c (by omega))
theorem cntP_pos {p : Nat → Prop} : ∀ {N : Nat}, 0 < cntP p N → ∃ q, q < N ∧ p q
  | 0, h => absurd h (Nat.lt_irrefl _)
  | N + 1, h => by
    by_cases g : p N
    · exact ⟨N, by omega, g⟩
    · have h : 0 < cif (p N) (cntP p N + 1) (cntP p N) := h
      rw [cif_f g] at h
      obtain ⟨q, hq, hp⟩ := cntP_pos h
      exact ⟨q, by omega, hp⟩
theorem cntP_cg {p p' : Nat → Prop} : ∀ {N : Nat}, (∀ q, q < N → (p q ↔ p' q)) → cntP p N = cntP p' N
  | 0, _ => rfl
  | N + 1, h => by
    have ih := cntP_cg (fun q hq => h q (by omega)) (N := N)
    show cif (p N) (cntP p N + 1) (cntP p N) = cif (p' N) (cntP p' N + 1) (cntP p' N)
    rw [ih]
    by_cases g : p N
    · rw [cif_t g, cif_t ((h N (by omega)).mp g)]
    · rw [cif_f g, cif_f (fun q => g ((h N (by omega)).mpr q))]
theorem cntP_upd {f : Nat → Int32} {P : Nat} {x : Int32} (h0 : f P = 0) (hx : ¬ x = 0) : ∀ {N : Nat}, P < N → cntP (fun q => upd f P x q = 0) N + 1 = cntP (fun q => f q = 0) N
  | 0, h => absurd h (Nat.not_lt_zero _)
  | N + 1, h => by
    show cif (upd f P x N = 0) (cntP (fun q => upd f P x q = 0) N + 1) (cntP (fun q => upd f P x q = 0) N) + 1 = cif (f N = 0) (cntP (fun q => f q = 0) N + 1) (cntP (fun q => f q = 0) N)
    by_cases e : P = N
    · subst e
      have ih : cntP (fun q => upd f P x q = 0) P = cntP (fun q => f q = 0) P := cntP_cg (fun q hq => by
        show upd f P x q = 0 ↔ f q = 0
        rw [pk_un (by omega)])
      rw [cif_t h0, cif_f (by rw [pk_us]; exact hx), ih]
    · have ih := cntP_upd h0 hx (N := N) (by omega)
      rw [pk_un (Ne.symm e)]
      by_cases g : f N = 0
      · rw [cif_t g, cif_t g]
        omega
      · rw [cif_f g, cif_f g]
        exact ih
theorem cntP_full {p : Nat → Prop} : ∀ {N : Nat}, (∀ q, q < N → p q) → cntP p N = N
  | 0, _ => rfl
  | N + 1, h => by
    show cif (p N) (cntP p N + 1) (cntP p N) = N + 1
    rw [cif_t (h N (by omega)), cntP_full (fun q hq => h q (by omega))]
def sX10_placeOf : XS := fun as w post => ∃ (A : XA) (F : Nat → Int32) (v oz : Nat), as = [.ref 0, .int (nI v)] ∧ w = LM A F ∧ v < 2 ^ 31 ∧ oz < 2048 ∧ A 9 (hp v oz) = 0 ∧ (∀ q, q < 2048 → A 9 q = 0 ∨ ∃ j, j < 601 ∧ A 9 q = nI (j + 1)) ∧
  ∀ o, o < 2048 → (∀ o', o' < o → ∃ j, j < 601 ∧ A 9 (hp v o') = nI (j + 1) ∧ ¬ A 8 j = nI v) → (A 9 (hp v o) = 0 ∨ ∃ j, j < 601 ∧ A 9 (hp v o) = nI (j + 1) ∧ A 8 j = nI v) → post (some (.int (nI (hp v o)))) (LM A F)
set_option maxRecDepth 10000 in
set_option maxHeartbeats 1000000 in
theorem mX10_placeOf (d : Nat) (hd : 0 ≤ d) : xCT d yX10_placeOf cX10_placeOf 3 (some .int) sX10_placeOf := by
  refine xmet (tb := tX10_placeOf) (fl := fX10) (kc := nX10) (gs := g0) (cl := xlk []) (by decide) tX10_placeOf_ok fX10_ok nX10_ok g0_ok xg_nil ?_
  rintro L xs as w Qp ⟨A, F, v, oz, rfl, rfl, hv, hoz, hz, hall, h⟩
  refine ⟨Nat.le_of_ble_eq_true rfl, 400, xlk [(6, 3)], fun m pc ls st w => pc = 6 ∧ st = [] ∧ ∃ o, o ≤ oz ∧ m = oz - o ∧ ls = [(0, .ref 0), (1, .int (nI v)), (2, .int (nI (hp v o)))] ∧ w = LM A F ∧ (∀ o', o' < o → ∃ j, j < 601 ∧ A 9 (hp v o') = nI (j + 1) ∧ ¬ A 8 j = nI v), ?_, ?_⟩
  · refine And.intro (by decide) ?_
    refine ⟨oz, rfl, rfl, 0, Nat.zero_le _, rfl, ?_, rfl, fun o' ho => absurd ho (Nat.not_lt_zero _)⟩
    show [(0, Value.ref 0), (1, Value.int (nI v)), (2, Value.int (nI v - nI v / nI 2048 * nI 2048))] = _
    rw [pk_rem hv (by decide) (by decide)]
    rfl
  · rintro m pc m9 ls st w hc ⟨rfl, rfl, o, ho, rfl, rfl, rfl, hb⟩
    have hl := hp_lt v o
    have ecl : (nI (hp v o)).toNatClampNeg = hp v o := cl (by omega)
    have i1 : vp_in (nI (hp v o)) 2048 := vp_in_nI hl (by decide)
    refine And.intro i1 ?_
    refine And.intro (fun g => ?_) (fun g => ?_)
    · have g : A 9 (nI (hp v o)).toNatClampNeg ≤ 0 := g
      rw [ecl] at g
      refine h o (by omega) hb (Or.inl ?_)
      rcases hall _ hl with q | ⟨j, hj, q⟩
      · exact q
      · rw [q] at g
        have g : nI (j + 1) ≤ nI 0 := g
        rw [fa_le, nI_toInt (by omega), nI_toInt (by omega)] at g
        omega
    · have g : ¬ A 9 (nI (hp v o)).toNatClampNeg ≤ 0 := g
      rw [ecl] at g
      rcases hall _ hl with q | ⟨j, hj, q⟩
      · rw [q] at g
        exact absurd (by decide) g
      · have ej : A 9 (nI (hp v o)).toNatClampNeg - 1 = nI j := by rw [ecl, q, nI_pred]
        refine And.intro i1 (And.intro (by show vp_in (A 9 (nI (hp v o)).toNatClampNeg - 1) 601; rw [ej]; exact vp_in_nI hj (by decide)) ?_)
        refine And.intro (fun g2 => ?_) (fun g2 => ?_)
        · have g2 : A 8 (A 9 (nI (hp v o)).toNatClampNeg - 1).toNatClampNeg = nI v := g2
          rw [ej, cl (by omega)] at g2
          exact h o (by omega) hb (Or.inr ⟨j, hj, q, g2⟩)
        · have g3 : ¬ A 8 (A 9 (nI (hp v o)).toNatClampNeg - 1).toNatClampNeg = nI v := g2
          rw [ej, cl (by omega)] at g3
          refine And.intro (by decide) ?_
          have hne : o ≠ oz := by
            intro q2
            subst q2
            rw [hz] at q
            exact nI_ne0 (by omega) (by omega) q.symm
          refine ⟨oz - (o + 1), by omega, rfl, rfl, o + 1, by omega, rfl, ?_, rfl, fun o' ho' => ?_⟩
          · show [(0, Value.ref 0), (1, Value.int (nI v)), (2, Value.int ((nI (hp v o) + 1) - (nI (hp v o) + 1) / nI 2048 * nI 2048))] = _
            rw [nI_1, pk_rem (by omega) (by decide) (by decide), hp_s]
          · by_cases q3 : o' = o
            · rw [q3]
              exact ⟨j, hj, q, g3⟩
            · exact hb o' (by omega)
/-- the number of the state i bars on -/
noncomputable def fN (d : Nat → Int32) (k i : Nat) : Nat := (numF (d 1) (itr d k i (nw d)) k 0).toNatClampNeg
noncomputable def rdL (d : Nat → Int32) (k : Nat) : Nat := lead (fun i => ∀ j, j < i → ¬ fN d k j = fN d k i) 601
noncomputable def rdT (d : Nat → Int32) (k : Nat) : Nat := lead (fun j => ¬ fN d k j = fN d k (rdL d k)) (rdL d k)
theorem fN_v {d : Nat → Int32} {n k : Nat} (hI : DI d n k) (i : Nat) : numF (d 1) (itr d k i (nw d)) k 0 = nI (fN d k i) ∧ fN d k i < 429981697 := by
  obtain ⟨hn, hn2, hn12, hk, hk8, hsg, -⟩ := hI
  have hb : ∀ t, t < k → bd (itr d k i (nw d) t) n := by
    cases i with
    | zero => exact fun t ht => (hsg t ht).2.2.1
    | succ i => exact fun t ht => stp_bd hn hn2 hn12 _ t ht
  obtain ⟨x, ex, hx⟩ := numF_n k hb 0
  have hp := powb hn2 hn12 hk8
  have ex : numF (d 1) (itr d k i (nw d)) k 0 = nI x := by rw [hn]; exact ex
  unfold fN
  rw [ex, cl (by omega)]
  exact ⟨rfl, by omega⟩
def NZ (A : XA) (F : Nat → Int32) (A' : XA) (F' : Nat → Int32) : Prop := (∀ p, p ≠ 4 → p ≠ 5 → p ≠ 7 → p ≠ 8 → p ≠ 9 → A' p = A p) ∧ (∀ q, ¬ (4 ≤ q ∧ q ≤ 9) → q ≠ 16 → q ≠ 17 → F' q = F q)
theorem NZ.one {A A' : XA} {F F' : Nat → Int32} (h : NZ A F A' F') : A' 1 = A 1 := h.1 1 (by omega) (by omega) (by omega) (by omega) (by omega)
theorem NZ.per {A A' : XA} {F F' : Nat → Int32} (h : NZ A F A' F') : per A F A' F' := ⟨h.1 1 (by omega) (by omega) (by omega) (by omega) (by omega), h.1 2 (by omega) (by omega) (by omega) (by omega) (by omega), h.1 3 (by omega) (by omega) (by omega) (by omega) (by omega), h.1 14 (by omega) (by omega) (by omega) (by omega) (by omega), h.1 15 (by omega) (by omega) (by omega) (by omega) (by omega), h.1 16 (by omega) (by omega) (by omega) (by omega) (by omega), h.1 17 (by omega) (by omega) (by omega) (by omega) (by omega), h.2 2 (by omega) (by omega) (by omega), h.2 24 (by omega) (by omega) (by omega)⟩
def sX10_findRound : XS := fun as w post => ∃ (A : XA) (F : Nat → Int32) (n k : Nat), as = [.ref 0] ∧ w = LM A F ∧ DI (A 1) n k ∧ TXO (A 1) 0 ∧
  (¬ rdL (A 1) k = 601 → ∀ A' F', NZ A F A' F' → F' 16 = nI (rdT (A 1) k) → F' 17 = nI (rdL (A 1) k) - nI (rdT (A 1) k) → post (some (.int 1)) (LM A' F')) ∧
  (rdL (A 1) k = 601 → ∀ A' F', NZ A F A' F' → post (some (.int 0)) (LM A' F'))
theorem lset9 {F : Nat → Int32} (B : XA) (f f' : Nat → Int32) (h2 : f = f') : List.set (LM B F) 9 (.inl (0, 2048, .inl f)) = LM (aset B 9 f') F := by
  subst h2
  rfl
theorem lset89 {F : Nat → Int32} (B : XA) (f f' g g' : Nat → Int32) (h1 : f = f') (h2 : g = g') : List.set (List.set (LM B F) 8 (.inl (0, 601, .inl f))) 9 (.inl (0, 2048, .inl g)) = LM (aset (aset B 8 f') 9 g') F := by
  subst h1 h2
  rfl
/-- the table holds the states of the first i bars, and nothing else -/
def HT (u pl : Nat → Int32) (x : Nat → Nat) (i : Nat) : Prop := (∀ j, j < i → u j = nI (x j)) ∧ (∀ q, q < 2048 → pl q = 0 ∨ ∃ j, j < i ∧ pl q = nI (j + 1)) ∧ (∀ j, j < i → ∃ o, o < 2048 ∧ pl (hp (x j) o) = nI (j + 1) ∧ ∀ o', o' < o → ¬ pl (hp (x j) o') = 0) ∧ cntP (fun q => pl q = 0) 2048 = 2048 - i
theorem HT_0 {u pl : Nat → Int32} {x : Nat → Nat} (h : ∀ q, q < 2048 → pl q = 0) : HT u pl x 0 := ⟨fun j hj => absurd hj (Nat.not_lt_zero _), fun q hq => Or.inl (h q hq), fun j hj => absurd hj (Nat.not_lt_zero _), cntP_full h⟩
theorem HT_z {u pl : Nat → Int32} {x : Nat → Nat} {i : Nat} (h : HT u pl x i) (hi : i < 2048) (v : Nat) : ∃ oz, oz < 2048 ∧ pl (hp v oz) = 0 := by
  obtain ⟨q, hq, hz⟩ := cntP_pos (p := fun q => pl q = 0) (N := 2048) (by rw [h.2.2.2]; omega)
  refine ⟨(q + 2048 - v % 2048) % 2048, Nat.mod_lt _ (by decide), ?_⟩
  have e : hp v ((q + 2048 - v % 2048) % 2048) = q := by
    unfold hp
    omega
  rw [e]
  exact hz
/-- a free place: new -/
theorem HT_new {u pl : Nat → Int32} {x : Nat → Nat} {i o : Nat} (h : HT u pl x i) (hx : ∀ j, x j < 429981697) (ho : o < 2048) (hi : i ≤ 600) (hb : ∀ o', o' < o → ∃ j, j < 601 ∧ pl (hp (x i) o') = nI (j + 1) ∧ ¬ u j = nI (x i)) (hz : pl (hp (x i) o) = 0) : (∀ j, j < i → ¬ x j = x i) ∧ HT (upd u i (nI (x i))) (upd pl (hp (x i) o) (nI (i + 1))) x (i + 1) := by
  obtain ⟨h1, h2, h3, h4⟩ := h
  have hP := hp_lt (x i) o
  refine ⟨fun j hj e => ?_, fun j hj => ?_, fun q hq => ?_, fun j hj => ?_, ?_⟩
  · obtain ⟨oj, hoj, ej, hbj⟩ := h3 j hj
    rw [e] at ej hbj
    rcases Nat.lt_trichotomy o oj with q | q | q
    · exact hbj o q hz
    · subst q
      rw [hz] at ej
      exact nI_ne0 (by omega) (by omega) ej.symm
    · obtain ⟨j2, hj2, e2, n2⟩ := hb oj q
      rw [ej] at e2
      have := nI_inj (by omega) (by omega) e2
      have e3 : j2 = j := by omega
      subst e3
      rw [h1 j2 hj, e] at n2
      exact n2 rfl
  · by_cases q : j = i
    · subst q
      rw [pk_us]
    · rw [pk_un q]
      exact h1 j (by omega)
  · by_cases q2 : q = hp (x i) o
    · subst q2
      rw [pk_us]
      exact Or.inr ⟨i, by omega, rfl⟩
    · rw [pk_un q2]
      rcases h2 q hq with q3 | ⟨j, hj, q3⟩
      · exact Or.inl q3
      · exact Or.inr ⟨j, by omega, q3⟩
  · by_cases q : j = i
    · subst q
      refine ⟨o, ho, pk_us, fun o' ho' => ?_⟩
      obtain ⟨j2, hj2, e2, -⟩ := hb o' ho'
      by_cases q2 : hp (x j) o' = hp (x j) o
      · rw [q2, pk_us]
        exact nI_ne0 (by omega) (by omega)
      · rw [pk_un q2, e2]
        exact nI_ne0 (by omega) (by omega)
    · obtain ⟨oj, hoj, ej, hbj⟩ := h3 j (by omega)
      refine ⟨oj, hoj, ?_, fun o' ho' => ?_⟩
      · rw [pk_un]
        · exact ej
        · intro q2
          rw [q2, hz] at ej
          exact nI_ne0 (by omega) (by omega) ej.symm
      · by_cases q2 : hp (x j) o' = hp (x i) o
        · rw [q2, pk_us]
          exact nI_ne0 (by omega) (by omega)
        · rw [pk_un q2]
          exact hbj o' ho'
  · have := cntP_upd (x := nI (i + 1)) hz (nI_ne0 (by omega) (by omega)) hP
    rw [h4] at this
    omega
set_option maxRecDepth 10000 in
set_option maxHeartbeats 1000000 in
theorem mX10_findRound (d : Nat) (hd : 64 ≤ d) : xCT d yX10_findRound cX10_findRound 4 (some .boolean) sX10_findRound := by
  obtain ⟨d, rfl⟩ : ∃ e, d = e + 1 := ⟨d - 1, by omega⟩
  refine xmet (tb := tX10_findRound) (fl := fX10) (kc := nX10) (gs := g0) (cl := xlk [(185, true, 2, xrcv 10 (sX10_begins)), (205, true, 2, xrcv 10 (sX10_numberOf)), (208, true, 2, xrcv 10 (sX10_placeOf)), (178, true, 2, xrcv 10 (sX10_goesBy))]) (by decide) tX10_findRound_ok fX10_ok nX10_ok g0_ok (xg_cons (k_X10_185 (mX10_begins d (by omega))) (xg_cons (k_X10_205 (mX10_numberOf d (by omega))) (xg_cons (k_X10_208 (mX10_placeOf d (by omega))) (xg_cons (k_X10_178 (mX10_goesBy d (by omega))) xg_nil)))) ?_
  rintro L xs as w Qp ⟨A, F, n, k, rfl, rfl, hI, hT, hy, hno⟩
  obtain ⟨hn, hn2, hn12, hk, hk8, -⟩ := id hI
  have hf := fun i => fN_v hI i
  refine ⟨Nat.le_of_ble_eq_true rfl, 400, xlk [(2, 2), (32, 2)], fun m pc ls st w => st = [] ∧ ((pc = 2 ∧ ∃ s, s ≤ 2048 ∧ m = 5000 - s ∧ ls = [(0, .ref 0), (1, .int (nI s))] ∧ w = LM (aset A 9 (cpU (fun _ => 0) (A 9) s)) F) ∨ (pc = 32 ∧ ∃ i A' F', i ≤ 601 ∧ m = 1000 - i ∧ ls = [(0, .ref 0), (1, .int (nI i))] ∧ w = LM A' F' ∧ NZ A F A' F' ∧ (∀ t, t < k → A' 5 t = itr (A 1) k i (nw (A 1)) t) ∧ HT (A' 8) (A' 9) (fN (A 1) k) i ∧ lead (fun i => ∀ j, j < i → ¬ fN (A 1) k j = fN (A 1) k i) i = i)), ?_, ?_⟩
  · exact ⟨5000, rfl, Or.inl ⟨rfl, 0, Nat.zero_le _, rfl, rfl, by rw [cpU_0, aset_eta]⟩⟩
  · rintro m pc m9 ls st w hc ⟨rfl, ⟨rfl, s, hs, rfl, rfl, rfl⟩ | ⟨rfl, i, A', F', hi, rfl, rfl, rfl, hN, a5, hH, hL⟩⟩
    · refine And.intro (fun g => ?_) (fun g => ?_)
      · have := ge_n (x := 2048) (k := 2048) rfl (by omega) (by omega) g
        have es : s = 2048 := by omega
        subst es
        refine ⟨5, by omega, _, F, k, rfl, rfl, hk, hk8, ?_⟩
        refine ⟨1000, by omega, rfl, Or.inr ⟨rfl, 0, _, F, Nat.zero_le _, rfl, rfl, rfl, ⟨fun p _ p5 _ _ p9 => (aset_n p5).trans (aset_n p9), fun _ _ _ _ => rfl⟩, nts_nw _, HT_0 (fun q hq => ?_), rfl⟩⟩
        show cpU (fun _ => (0 : Int32)) (A 9) 2048 q = 0
        exact if_pos hq
      · have hlt := nge_n (x := 2048) (k := 2048) rfl (by omega) (by omega) g
        refine And.intro (vp_in_nI (by omega) (by decide)) ?_
        refine ⟨5000 - (s + 1), by omega, rfl, Or.inl ⟨rfl, s + 1, hlt, rfl, by rw [← nI_1]; rfl, ?_⟩⟩
        refine (lset9 _ _ (cpU (fun _ => 0) (A 9) (s + 1)) ?_).trans ?_
        · rw [cl (by omega)]
          exact cpU_s (fun _ => 0) (A 9) s
        · rw [aset_aset]
    · have e1 : A' 1 = A 1 := hN.one
      refine And.intro (fun g => ?_) (fun g => ?_)
      · have g : nI 600 < nI i := g
        rw [fa_lt, nI_toInt (by omega), nI_toInt (by omega)] at g
        have ei : i = 601 := by omega
        subst ei
        exact ⟨rfl, hno hL A' F' hN⟩
      · have g : ¬ nI 600 < nI i := g
        rw [fa_lt, nI_toInt (by omega), nI_toInt (by omega)] at g
        refine ⟨A', F', k, rfl, rfl, by rw [e1]; exact hk, hk8, ?_⟩
        have ev : numF (A' 1 1) (A' 5) k 0 = nI (fN (A 1) k i) := by
          rw [e1]
          exact (numF_cg k 0 a5).trans (hf i).1
        have hfb := (hf i).2
        obtain ⟨oz, hoz, hz⟩ := HT_z hH (by omega) (fN (A 1) k i)
        refine ⟨A', F', fN (A 1) k i, oz, by rw [← ev], rfl, by omega, hoz, hz, fun q hq => ?_, fun o ho hb hend => ?_⟩
        · rcases hH.2.1 q hq with q2 | ⟨j, hj, q2⟩
          · exact Or.inl q2
          · exact Or.inr ⟨j, by omega, q2⟩
        · have hP := hp_lt (fN (A 1) k i) o
          have ecl : (nI (hp (fN (A 1) k i) o)).toNatClampNeg = hp (fN (A 1) k i) o := cl (by omega)
          have i1 : vp_in (nI (hp (fN (A 1) k i) o)) 2048 := vp_in_nI hP (by decide)
          refine And.intro i1 ?_
          refine And.intro (fun g2 => ?_) (fun g2 => ?_)
          · have g2 : A' 9 (nI (hp (fN (A 1) k i) o)).toNatClampNeg ≤ 0 := g2
            rw [ecl] at g2
            have hz0 : A' 9 (hp (fN (A 1) k i) o) = 0 := by
              rcases hend with q | ⟨j, hj, q, -⟩
              · exact q
              · rw [q] at g2
                have g2 : nI (j + 1) ≤ nI 0 := g2
                rw [fa_le, nI_toInt (by omega), nI_toInt (by omega)] at g2
                omega
            obtain ⟨hnew, hH2⟩ := HT_new hH (fun j => (hf j).2) ho (by omega) hb hz0
            refine And.intro (vp_in_nI (by omega) (by decide)) (And.intro i1 ?_)
            have eu : upd (A' 8) (nI i).toNatClampNeg (numF (A' 1 1) (A' 5) k 0) = upd (A' 8) i (nI (fN (A 1) k i)) := by rw [cl (by omega), ev]
            have ep : upd (A' 9) (nI (hp (fN (A 1) k i) o)).toNatClampNeg (nI i + 1) = upd (A' 9) (hp (fN (A 1) k i) o) (nI (i + 1)) := by rw [ecl, nI_1]
            refine ⟨5, by omega, aset (aset A' 8 (upd (A' 8) i (nI (fN (A 1) k i)))) 9 (upd (A' 9) (hp (fN (A 1) k i) o) (nI (i + 1))), F', n, k, rfl, lset89 _ _ _ _ _ eu ep, by show DI (A' 1) n k; rw [e1]; exact hI, by show TXO (A' 1) 0; rw [e1]; exact hT, fun A2 F2 h2 hR2 => ?_⟩
            have e28 : A2 8 = upd (A' 8) i (nI (fN (A 1) k i)) := hR2.1 8 (by omega) (by omega) (by omega)
            have e29 : A2 9 = upd (A' 9) (hp (fN (A 1) k i) o) (nI (i + 1)) := hR2.1 9 (by omega) (by omega) (by omega)
            refine ⟨1000 - (i + 1), by omega, rfl, Or.inr ⟨rfl, i + 1, A2, F2, by omega, rfl, by rw [← nI_1]; rfl, rfl, ⟨fun p p4 p5 p7 p8 p9 => (hR2.1 p p4 p7 p5).trans ((aset_n p9).trans ((aset_n p8).trans (hN.1 p p4 p5 p7 p8 p9))), fun q q1 q2 q3 => (hR2.2 q q1).trans (hN.2 q q1 q2 q3)⟩, fun t ht => ?_, by rw [e28, e29]; exact hH2, lead_go hL hnew⟩⟩
            have h2 : A2 5 = stp (A' 1) k (A' 5) := h2
            rw [h2, e1]
            exact stp_cg hI a5 t ht
          · have g2 : ¬ A' 9 (nI (hp (fN (A 1) k i) o)).toNatClampNeg ≤ 0 := g2
            rw [ecl] at g2
            rcases hend with q | ⟨j, hj, q, q2⟩
            · rw [q] at g2
              exact absurd (by decide) g2
            · have hji : j < i := by
                rcases hH.2.1 _ hP with q3 | ⟨j3, hj3, q3⟩
                · rw [q3] at q
                  exact absurd q.symm (nI_ne0 (by omega) (by omega))
                · rw [q] at q3
                  have := nI_inj (by omega) (by omega) q3
                  omega
              rw [hH.1 j hji] at q2
              have ej := nI_inj (by have := (hf j).2; omega) (by omega) q2
              have hLi : rdL (A 1) k = i := lead_stop hL (fun q3 => q3 j hji ej) 601 hi
              have hTj : rdT (A 1) k = j := by
                unfold rdT
                rw [hLi]
                refine lead_stop (p := fun j => ¬ fN (A 1) k j = fN (A 1) k i) (lead_of (fun j2 hj2 e2 => ?_)) (fun q3 => q3 ej) i (by omega)
                have := lead_all hL j hji j2 hj2
                exact this (e2.trans ej.symm)
              have ew : A' 9 (nI (hp (fN (A 1) k i) o)).toNatClampNeg - 1 = nI j := by rw [ecl, q, nI_pred]
              refine And.intro i1 ?_
              refine ⟨rfl, hy (by rw [hLi]; omega) A' (fset (fset F' 16 (A' 9 (nI (hp (fN (A 1) k i) o)).toNatClampNeg - 1)) 17 (nI i - (A' 9 (nI (hp (fN (A 1) k i) o)).toNatClampNeg - 1))) ⟨hN.1, fun q q1 q2 q3 => (fset_n q3).trans ((fset_n q2).trans (hN.2 q q1 q2 q3))⟩ ?_ ?_⟩
              · rw [fset_n (by omega), fset_s, ew, hTj]
              · rw [fset_s, ew, hTj, hLi]
noncomputable def qround (what : Int32) (A : XA) (F : Nat → Int32) : XR := cif (0 ≤ what ∧ what ≤ 1) (cif (rdL (A 1) (kN A) = 601) (eR 2 A F) (cif (what = 0) (nI (rdT (A 1) (kN A))) (nI (rdL (A 1) (kN A)) - nI (rdT (A 1) (kN A))), A, F)) (eR 1 A F)
def sX10_round : XS := fun as w post => ∃ (A : XA) (F : Nat → Int32) (what : Int32) (n k : Nat), as = [.ref 0, .int what] ∧ w = LM A F ∧ DI (A 1) n k ∧ TXO (A 1) 0 ∧ sQ (qround what A F) post
set_option maxRecDepth 10000 in
set_option maxHeartbeats 1000000 in
theorem mX10_round (d : Nat) (hd : 65 ≤ d) : xCT d yX10_round cX10_round 2 (some .int) sX10_round := by
  obtain ⟨d, rfl⟩ : ∃ e, d = e + 1 := ⟨d - 1, by omega⟩
  refine xmet0 (tb := tX10_round) (fl := fX10) (kc := nX10) (gs := g0) (cl := xlk [(65, false, 3, sX10_in), (128, true, 2, xrcv 10 (sX10_finds)), (217, true, 1, xrcv 10 (sX10_findRound))]) 400 (by decide) tX10_round_ok fX10_ok nX10_ok g0_ok (xg_cons (k_X10_65 (mX10_in d (by omega))) (xg_cons (k_X10_128 (mX10_finds d (by omega))) (xg_cons (k_X10_217 (mX10_findRound d (by omega))) xg_nil))) ?_
  rintro L xs as w Qp ⟨A, F, what, n, k, rfl, rfl, hI, hT, h⟩
  obtain ⟨eN, eK⟩ := DI_nk hI
  refine ⟨Nat.le_of_ble_eq_true rfl, ?_⟩
  refine ⟨what, 0, 1, rfl, fun g1 g2 => ?_, fun g => ?_⟩
  · refine br_t xc_ne1 ?_
    unfold qround at h
    rw [cif_t ⟨g1, g2⟩, eK] at h
    refine ⟨A, F, n, k, rfl, rfl, hI, hT, fun h3 A' F' hN h16 h17 => ?_, fun h3 A' F' hN => ?_⟩
    · refine br_t xc_ne1 ?_
      rw [cif_f h3] at h
      refine And.intro (fun g => ?_) (fun g => ?_)
      · have g : ¬ what = 0 := g
        rw [cif_f g, ← h17] at h
        exact sQ_p h rfl hN.per
      · have g : what = 0 := Classical.byContradiction g
        rw [cif_t g, ← h16] at h
        exact sQ_p h rfl hN.per
    · refine br_f xc_ne0 ?_
      refine ⟨A', F', 2, rfl, rfl, by decide, ?_⟩
      rw [cif_t h3] at h
      exact sQ_p h rfl (per_er hN.per 2)
  · refine br_f xc_ne0 ?_
    refine ⟨A, F, 1, rfl, rfl, by decide, ?_⟩
    exact sQ_e h (cif_f' g rfl)
