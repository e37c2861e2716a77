/-! ===== the reference: all states: lays, findAll, findAt, isWished, beginnings ===== -/
def dg (n c : Nat) : Nat → Int32 := fun s => nI (c / n ^ s % n)
def sX10_lays : XS := fun as w post => ∃ (A : XA) (F : Nat → Int32) (n k c : Nat), as = [.ref 0, .int (nI c)] ∧ w = LM A F ∧ A 1 1 = nI n ∧ 2 ≤ n ∧ n ≤ 12 ∧ A 1 2 = nI k ∧ k ≤ 8 ∧ c < 2 ^ 31 ∧ post none (LM (aset A 5 (cpU (dg n c) (A 5) k)) F)
theorem lset5' {F : Nat → Int32} (B : XA) (f f' : Nat → Int32) (h2 : f = f') : List.set (LM B F) 5 (.inl (0, 8, .inl f)) = LM (aset B 5 f') F := by
  subst h2
  rfl
set_option maxRecDepth 10000 in
set_option maxHeartbeats 1000000 in
theorem mX10_lays (d : Nat) (hd : 0 ≤ d) : xCT d yX10_lays cX10_lays 4 none sX10_lays := by
  refine xmet (tb := tX10_lays) (fl := fX10) (kc := nX10) (gs := g0) (cl := xlk []) (by decide) tX10_lays_ok fX10_ok nX10_ok g0_ok xg_nil ?_
  rintro L xs as w Qp ⟨A, F, n, k, c, rfl, rfl, hn, hn2, hn12, hk, hk8, hc0, h⟩
  refine ⟨Nat.le_of_ble_eq_true rfl, 400, xlk [(4, 4)], fun m pc ls st w => pc = 4 ∧ st = [] ∧ ∃ s, s ≤ k ∧ m = k - s ∧ ls = [(0, .ref 0), (1, .int (nI c)), (2, .int (nI (c / n ^ s))), (3, .int (nI s))] ∧ w = LM (aset A 5 (cpU (dg n c) (A 5) s)) F, ?_, ?_⟩
  · exact ⟨k, rfl, rfl, 0, Nat.zero_le _, rfl, by rw [Nat.pow_zero, Nat.div_one]; rfl, by rw [cpU_0, aset_eta]⟩
  · rintro m pc m9 ls st w hc ⟨rfl, rfl, s, hs, rfl, rfl, rfl⟩
    have hd : c / n ^ s < 2 ^ 31 := Nat.lt_of_le_of_lt (Nat.div_le_self _ _) hc0
    have hz : ¬ A 1 1 = 0 := by rw [hn]; exact nI_ne0 (by omega) (by omega)
    refine And.intro (vl 2 250 rfl rfl) ?_
    refine And.intro (fun g => ?_) (fun g => ?_)
    · have := ge_n hk (by omega) (by omega) g
      rw [show s = k by omega]
      exact h
    · have hlt := nge_n hk (by omega) (by omega) g
      refine And.intro (vl 1 250 rfl rfl) (And.intro hz (And.intro (vp_in_nI (by omega) (by decide)) (And.intro (vl 1 250 rfl rfl) (And.intro hz ?_))))
      have e1 : nI (c / n ^ s) - nI (c / n ^ s) / A 1 1 * A 1 1 = dg n c s := by
        rw [hn, pk_rem hd (by omega) (by omega)]
        rfl
      have e2 : nI (c / n ^ s) / A 1 1 = nI (c / n ^ (s + 1)) := by rw [hn, pk_div hd (by omega) (by omega), Nat.div_div_eq_div_mul, Nat.pow_succ]
      have e3 : upd (cpU (dg n c) (A 5) s) (nI s).toNatClampNeg (nI (c / n ^ s) - nI (c / n ^ s) / A 1 1 * A 1 1) = cpU (dg n c) (A 5) (s + 1) := by rw [cl (by omega), e1, cpU_s]
      refine ⟨k - (s + 1), by omega, rfl, rfl, s + 1, hlt, rfl, ?_, ?_⟩
      · show [(0, Value.ref 0), (1, Value.int (nI c)), (2, Value.int (nI (c / n ^ s) / A 1 1)), (3, Value.int (nI s + 1))] = _
        rw [e2, nI_1]
      · refine (lset5' _ _ _ e3).trans ?_
        rw [aset_aset]
/-- the number of the state after the state of number c -/
noncomputable def nx (d : Nat → Int32) (n k c : Nat) : Nat := (numF (d 1) (stp d k (dg n c)) k 0).toNatClampNeg
theorem stp_bd {d : Nat → Int32} {n k : Nat} (hn : d 1 = nI n) (hn2 : 2 ≤ n) (hn12 : n ≤ 12) (r : Nat → Int32) (t : Nat) (ht : t < k) : bd (stp d k r t) n := by
  unfold stp
  rw [if_pos ht]
  unfold nxt
  rw [hn]
  exact crd_bd (by omega) (by omega) _
theorem numF_n {n : Nat} {r : Nat → Int32} : ∀ (k : Nat), (∀ t, t < k → bd (r t) n) → ∀ v : Nat, ∃ x, numF (nI n) r k (nI v) = nI x ∧ x < n ^ k * (v + 1)
  | 0, _, v => ⟨v, rfl, by rw [Nat.pow_zero]; omega⟩
  | k + 1, h, v => by
    obtain ⟨y, hy, ey⟩ := h k (by omega)
    obtain ⟨x, ex, hx⟩ := numF_n k (fun t ht => h t (by omega)) (n * v + y)
    refine ⟨x, ?_, ?_⟩
    · show numF (nI n) r k (nI n * nI v + r k) = nI x
      rw [ey, pk_mul, nI_add]
      exact ex
    · have h1 : n ^ k * (n * v + y + 1) ≤ n ^ k * (n * (v + 1)) := Nat.mul_le_mul_left _ (by rw [Nat.mul_succ]; omega)
      rw [Nat.pow_succ, Nat.mul_assoc]
      exact Nat.lt_of_lt_of_le hx h1
theorem powb {n s : Nat} (h2 : 2 ≤ n) (h : n ≤ 12) (hs : s ≤ 8) : n ^ s ≤ 429981696 := Nat.le_trans (Nat.pow_le_pow_left h s) (Nat.le_trans (Nat.pow_le_pow_right (by decide) hs) (by decide))
theorem nx_v {d : Nat → Int32} {n k : Nat} (hn : d 1 = nI n) (hn2 : 2 ≤ n) (hn12 : n ≤ 12) (hk8 : k ≤ 8) (c : Nat) : numF (d 1) (stp d k (dg n c)) k 0 = nI (nx d n k c) ∧ nx d n k c < n ^ k := by
  obtain ⟨x, ex, hx⟩ := numF_n k (stp_bd hn hn2 hn12 (dg n c)) 0
  have hb := powb hn2 hn12 hk8
  have ex : numF (d 1) (stp d k (dg n c)) k 0 = nI x := by rw [hn]; exact ex
  unfold nx
  rw [ex, cl (by omega)]
  exact ⟨rfl, by omega⟩
def BZ (A : XA) (F : Nat → Int32) (A' : XA) (F' : Nat → Int32) : Prop := (∀ p, p ≠ 4 → p ≠ 5 → p ≠ 7 → p ≠ 10 → p ≠ 11 → p ≠ 12 → A' p = A p) ∧ (∀ q, ¬ (4 ≤ q ∧ q ≤ 9) → q ≠ 21 → F' q = F q)
theorem BZ.r (A : XA) (F : Nat → Int32) : BZ A F A F := ⟨fun _ _ _ _ _ _ _ => rfl, fun _ _ _ => rfl⟩
theorem BZ.t {A B C : XA} {F G H : Nat → Int32} (h1 : BZ A F B G) (h2 : BZ B G C H) : BZ A F C H := ⟨fun p a b c d e f => (h2.1 p a b c d e f).trans (h1.1 p a b c d e f), fun q a b => (h2.2 q a b).trans (h1.2 q a b)⟩
theorem BZ.one {A A' : XA} {F F' : Nat → Int32} (h : BZ A F A' F') : A' 1 = A 1 := h.1 1 (by omega) (by omega) (by omega) (by omega) (by omega) (by omega)
theorem BZ.per {A A' : XA} {F F' : Nat → Int32} (h : BZ A F A' F') : per A F A' F' := ⟨h.1 1 (by omega) (by omega) (by omega) (by omega) (by omega) (by omega), h.1 2 (by omega) (by omega) (by omega) (by omega) (by omega) (by omega), h.1 3 (by omega) (by omega) (by omega) (by omega) (by omega) (by omega), h.1 14 (by omega) (by omega) (by omega) (by omega) (by omega) (by omega), h.1 15 (by omega) (by omega) (by omega) (by omega) (by omega) (by omega), h.1 16 (by omega) (by omega) (by omega) (by omega) (by omega) (by omega), h.1 17 (by omega) (by omega) (by omega) (by omega) (by omega) (by omega), h.2 2 (by omega) (by omega), h.2 24 (by omega) (by omega)⟩
theorem BZ.rs {A A' : XA} {F F' : Nat → Int32} (h : RS 5 A F A' F') : BZ A F A' F' := ⟨fun p a b c _ _ _ => h.1 p a c b, fun q a _ => h.2 q a⟩
theorem BZ.sw {A A' : XA} {F F' : Nat → Int32} (h : SW A F A' F') : BZ A F A' F' := ⟨fun p a _ _ _ _ _ => h.1 p a, fun q a _ => h.2 q a⟩
theorem BZ.a5 (A : XA) (F : Nat → Int32) (f : Nat → Int32) : BZ A F (aset A 5 f) F := ⟨fun p _ b _ _ _ _ => aset_n b, fun _ _ _ => rfl⟩
theorem BZ.a10 (A : XA) (F : Nat → Int32) (f : Nat → Int32) : BZ A F (aset A 10 f) F := ⟨fun p _ _ _ b _ _ => aset_n b, fun _ _ _ => rfl⟩
theorem BZ.a11 (A : XA) (F : Nat → Int32) (f : Nat → Int32) : BZ A F (aset A 11 f) F := ⟨fun p _ _ _ _ b _ => aset_n b, fun _ _ _ => rfl⟩
theorem BZ.a12 (A : XA) (F : Nat → Int32) (f : Nat → Int32) : BZ A F (aset A 12 f) F := ⟨fun p _ _ _ _ _ b => aset_n b, fun _ _ _ => rfl⟩
theorem BZ.f21 (A : XA) (F : Nat → Int32) (x : Int32) : BZ A F A (fset F 21 x) := ⟨fun _ _ _ _ _ _ _ => rfl, fun q _ b => fset_n b⟩
theorem per_er {A A' : XA} {F F' : Nat → Int32} (h : per A F A' F') (j : Nat) : per (er A j) F (er A' j) F' := by
  obtain ⟨h1, h2, h3, h4, h5, h6, h7, h8, h9⟩ := h
  exact ⟨h1, h2, by show upd (A' 3) j (A' 3 j + 1) = upd (A 3) j (A 3 j + 1); rw [h3], h4, h5, h6, h7, h8, h9⟩
theorem lset10 {F : Nat → Int32} (B : XA) (f f' : Nat → Int32) (h2 : f = f') : List.set (LM B F) 10 (.inl (0, 3000, .inl f)) = LM (aset B 10 f') F := by
  subst h2
  rfl
theorem lset11 {F : Nat → Int32} (B : XA) (f f' : Nat → Int32) (h2 : f = f') : List.set (LM B F) 11 (.inl (0, 3000, .inl f)) = LM (aset B 11 f') F := by
  subst h2
  rfl
theorem lset12 {F : Nat → Int32} (B : XA) (f f' : Nat → Int32) (h2 : f = f') : List.set (LM B F) 12 (.inl (0, 3000, .inl f)) = LM (aset B 12 f') F := by
  subst h2
  rfl
def sX10_findAll : XS := fun as w post => ∃ (A : XA) (F : Nat → Int32) (n k : Nat), as = [.ref 0] ∧ w = LM A F ∧ DI (A 1) n k ∧ TXO (A 1) 0 ∧
  (n ^ k ≤ 3000 → ∀ A' F', BZ A F A' F' → F' 21 = nI (n ^ k) → (∀ c, c < n ^ k → A' 10 c = nI (nx (A 1) n k c)) → post (some (.int 1)) (LM A' F')) ∧
  (¬ n ^ k ≤ 3000 → ∀ A' F', BZ A F A' F' → post (some (.int 0)) (LM A' F'))
set_option maxRecDepth 10000 in
set_option maxHeartbeats 1000000 in
theorem mX10_findAll (d : Nat) (hd : 64 ≤ d) : xCT d yX10_findAll cX10_findAll 2 (some .boolean) sX10_findAll := by
  obtain ⟨d, rfl⟩ : ∃ e, d = e + 1 := ⟨d - 1, by omega⟩
  refine xmet (tb := tX10_findAll) (fl := fX10) (kc := nX10) (gs := g0) (cl := xlk [(224, true, 2, xrcv 10 (sX10_lays)), (178, true, 2, xrcv 10 (sX10_goesBy)), (205, true, 2, xrcv 10 (sX10_numberOf))]) (by decide) tX10_findAll_ok fX10_ok nX10_ok g0_ok (xg_cons (k_X10_224 (mX10_lays d (by omega))) (xg_cons (k_X10_178 (mX10_goesBy d (by omega))) (xg_cons (k_X10_205 (mX10_numberOf d (by omega))) xg_nil))) ?_
  rintro L xs as w Qp ⟨A, F, n, k, rfl, rfl, hI, hT, hy, hno⟩
  obtain ⟨hn, hn2, hn12, hk, hk8, -⟩ := id hI
  have hpk : ∀ s, s ≤ 8 → n ^ s ≤ 429981696 := fun s hs => powb hn2 hn12 hs
  have hbz : ∀ x, BZ A F A (fset F 21 x) := BZ.f21 A F
  refine ⟨Nat.le_of_ble_eq_true rfl, 400, xlk [(7, 2), (62, 2)], fun m pc ls st w => st = [] ∧ ((pc = 7 ∧ ∃ s, s ≤ k ∧ m = 5000 - s ∧ ls = [(0, .ref 0), (1, .int (nI s))] ∧ w = LM A (fset F 21 (nI (n ^ s)))) ∨ (pc = 62 ∧ ∃ c A' F', c ≤ n ^ k ∧ n ^ k ≤ 3000 ∧ m = 4000 - c ∧ ls = [(0, .ref 0), (1, .int (nI c))] ∧ w = LM A' F' ∧ BZ A F A' F' ∧ F' 21 = nI (n ^ k) ∧ (∀ x, x < c → A' 10 x = nI (nx (A 1) n k x)))), ?_, ?_⟩
  · exact ⟨5000, rfl, Or.inl ⟨rfl, 0, Nat.zero_le _, rfl, rfl, rfl⟩⟩
  · rintro m pc m9 ls st w hc ⟨rfl, ⟨rfl, s, hs, rfl, rfl, rfl⟩ | ⟨rfl, c, A', F', hcn, h3, rfl, rfl, rfl, hB, h21, h10⟩⟩
    · have hp := hpk s (by omega)
      refine And.intro (vl 2 250 rfl rfl) ?_
      refine And.intro (fun g => ?_) (fun g => ?_)
      · have := ge_n hk (by omega) (by omega) g
        have es : s = k := by omega
        subst es
        refine And.intro (fun g2 => ?_) (fun g2 => ?_)
        · have g2 : nI (n ^ s) ≤ nI 3000 := g2
          rw [fa_le, nI_toInt (by omega), nI_toInt (by omega)] at g2
          exact ⟨4000, by omega, rfl, Or.inr ⟨rfl, 0, A, fset F 21 (nI (n ^ s)), Nat.zero_le _, by omega, rfl, rfl, rfl, hbz _, rfl, fun x hx => absurd hx (Nat.not_lt_zero _)⟩⟩
        · have g2 : ¬ nI (n ^ s) ≤ nI 3000 := g2
          rw [fa_le, nI_toInt (by omega), nI_toInt (by omega)] at g2
          exact ⟨rfl, hno (by omega) A (fset F 21 (nI (n ^ s))) (hbz _)⟩
      · have hlt := nge_n hk (by omega) (by omega) g
        refine And.intro (fun g2 => ?_) (fun g2 => ?_)
        · have g2 : nI 3000 < nI (n ^ s) := g2
          rw [fa_lt, nI_toInt (by omega), nI_toInt (by omega)] at g2
          have hmono : n ^ s ≤ n ^ k := Nat.pow_le_pow_right (by omega) hs
          refine And.intro (fun g3 => ?_) (fun g3 => ?_)
          · have g3 : nI (n ^ s) ≤ nI 3000 := g3
            rw [fa_le, nI_toInt (by omega), nI_toInt (by omega)] at g3
            omega
          · exact ⟨rfl, hno (by omega) A (fset F 21 (nI (n ^ s))) (hbz _)⟩
        · refine And.intro (vl 1 250 rfl rfl) ?_
          have e : nI (n ^ s) * A 1 1 = nI (n ^ (s + 1)) := by rw [hn, pk_mul, Nat.pow_succ]
          refine ⟨5000 - (s + 1), by omega, rfl, Or.inl ⟨rfl, s + 1, hlt, rfl, by rw [← nI_1]; rfl, ?_⟩⟩
          show LM A (fset (fset F 21 (nI (n ^ s))) 21 (nI (n ^ s) * A 1 1)) = _
          rw [e]
          rfl
    · have e1 : A' 1 = A 1 := hB.one
      refine And.intro (fun g => ?_) (fun g => ?_)
      · have := ge_n h21 (by omega) (by omega) g
        exact ⟨rfl, hy h3 A' F' hB h21 (fun x hx => h10 x (by omega))⟩
      · have hlt := nge_n h21 (by omega) (by omega) g
        refine ⟨A', F', n, k, c, rfl, rfl, by rw [e1]; exact hn, hn2, hn12, by rw [e1]; exact hk, hk8, by omega, ?_⟩
        refine ⟨5, by omega, _, F', n, k, rfl, rfl, by show DI (A' 1) n k; rw [e1]; exact hI, by show TXO (A' 1) 0; rw [e1]; exact hT, fun A2 F2 h2 hR2 => ?_⟩
        have hR2 := RS_a hR2
        have hB2 : BZ A F A2 F2 := hB.t (BZ.rs hR2)
        have e12 : A2 1 = A 1 := hB2.one
        refine ⟨A2, F2, k, rfl, rfl, by rw [e12]; exact hk, hk8, ?_⟩
        refine And.intro (vp_in_nI (by omega) (by decide)) ?_
        have h2 : A2 5 = stp (A' 1) k (cpU (dg n c) (A' 5) k) := h2
        have ev : numF (A2 1 1) (A2 5) k 0 = nI (nx (A 1) n k c) := by
          rw [e12, h2, e1]
          refine Eq.trans ?_ (nx_v hn hn2 hn12 hk8 c).1
          refine numF_cg k 0 (stp_cg hI (fun t ht => ?_))
          unfold cpU
          rw [if_pos ht]
        have e10 : A2 10 = A' 10 := hR2.1 10 (by omega) (by omega) (by omega)
        have e21 : F2 21 = nI (n ^ k) := (hR2.2 21 (by omega)).trans h21
        have e3 : upd (A2 10) (nI c).toNatClampNeg (numF (A2 1 1) (A2 5) k 0) = upd (A' 10) c (nI (nx (A 1) n k c)) := by rw [cl (by omega), ev, e10]
        refine ⟨4000 - (c + 1), by omega, rfl, Or.inr ⟨rfl, c + 1, aset A2 10 (upd (A' 10) c (nI (nx (A 1) n k c))), F2, hlt, h3, rfl, by rw [← nI_1]; rfl, lset10 _ _ _ e3, hB2.t (BZ.a10 _ _ _), e21, fun x hx => ?_⟩⟩
        rw [aset_s]
        by_cases q : x = c
        · subst q
          rw [pk_us]
        · rw [pk_un q]
          exact h10 x (by omega)
def itN (b : Nat → Nat) : Nat → Nat → Nat
  | 0, i => i
  | m + 1, i => b (itN b m i)
theorem itN_lt {b : Nat → Nat} {N : Nat} (h : ∀ c, c < N → b c < N) (i : Nat) (hi : i < N) : ∀ m, itN b m i < N := by
  intro m
  induction m with
  | zero => exact hi
  | succ m ih => exact h _ ih
def sX10_findAt : XS := fun as w post => ∃ (A : XA) (F : Nat → Int32) (N M : Nat) (b : Nat → Nat), as = [.ref 0, .int (nI M)] ∧ w = LM A F ∧ M < 1000 ∧ N ≤ 3000 ∧ F 21 = nI N ∧ (∀ c, c < N → b c < N ∧ A 10 c = nI (b c)) ∧ post none (LM (aset A 11 (cpU (fun i => nI (itN b M i)) (A 11) N)) F)
set_option maxRecDepth 10000 in
set_option maxHeartbeats 1000000 in
theorem mX10_findAt (d : Nat) (hd : 0 ≤ d) : xCT d yX10_findAt cX10_findAt 5 none sX10_findAt := by
  refine xmet (tb := tX10_findAt) (fl := fX10) (kc := nX10) (gs := g0) (cl := xlk []) (by decide) tX10_findAt_ok fX10_ok nX10_ok g0_ok xg_nil ?_
  rintro L xs as w Qp ⟨A, F, N, M, b, rfl, rfl, hM, hN, h21, hb, h⟩
  have hl := fun i hi => itN_lt (fun c hc => (hb c hc).1) i hi
  refine ⟨Nat.le_of_ble_eq_true rfl, 400, xlk [(2, 3), (15, 5)], fun m pc ls st w => st = [] ∧ ∃ i, w = LM (aset A 11 (cpU (fun i => nI (itN b M i)) (A 11) i)) F ∧ ((pc = 2 ∧ i ≤ N ∧ m = 2000 * (N - i) ∧ ls = [(0, .ref 0), (1, .int (nI M)), (2, .int (nI i))]) ∨ (pc = 15 ∧ i < N ∧ ∃ t, t ≤ M ∧ m = 2000 * (N - (i + 1)) + 500 + (M - t) ∧ ls = [(0, .ref 0), (1, .int (nI M)), (2, .int (nI i)), (3, .int (nI (itN b t i))), (4, .int (nI t))])), ?_, ?_⟩
  · exact ⟨2000 * N, rfl, 0, by rw [cpU_0, aset_eta], Or.inl ⟨rfl, Nat.zero_le _, rfl, rfl⟩⟩
  · rintro m pc m9 ls st w hc ⟨rfl, i, rfl, ⟨rfl, hi, rfl, rfl⟩ | ⟨rfl, hi, t, ht, rfl, rfl⟩⟩
    · refine And.intro (fun g => ?_) (fun g => ?_)
      · have := ge_n h21 (by omega) (by omega) g
        rw [show i = N by omega]
        exact h
      · have hlt := nge_n h21 (by omega) (by omega) g
        exact ⟨2000 * (N - (i + 1)) + 500 + M, by omega, rfl, i, rfl, Or.inr ⟨rfl, hlt, 0, Nat.zero_le _, rfl, rfl⟩⟩
    · refine And.intro (fun g => ?_) (fun g => ?_)
      · have := ge_n rfl (by omega) (by omega) g
        have et : t = M := by omega
        subst et
        refine And.intro (vp_in_nI (by omega) (by decide)) ?_
        refine ⟨2000 * (N - (i + 1)), by omega, rfl, i + 1, ?_, Or.inl ⟨rfl, hi, rfl, by rw [← nI_1]; rfl⟩⟩
        refine (lset11 _ _ (cpU (fun i => nI (itN b t i)) (A 11) (i + 1)) ?_).trans ?_
        · rw [cl (by omega)]
          exact cpU_s (fun i => nI (itN b t i)) (A 11) i
        · rw [aset_aset]
      · have hlt := nge_n rfl (by omega) (by omega) g
        have hx := hl i hi t
        refine And.intro (vp_in_nI (by omega) (by decide)) ?_
        refine ⟨2000 * (N - (i + 1)) + 500 + (M - (t + 1)), by omega, rfl, i, rfl, Or.inr ⟨rfl, hi, t + 1, hlt, rfl, ?_⟩⟩
        have e : A 10 (nI (itN b t i)).toNatClampNeg = nI (itN b (t + 1) i) := by
          rw [cl (by omega)]
          exact (hb _ hx).2
        show [(0, Value.ref 0), (1, Value.int (nI M)), (2, Value.int (nI i)), (3, Value.int (A 10 (nI (itN b t i)).toNatClampNeg)), (4, Value.int (nI t + 1))] = _
        rw [e, nI_1]
