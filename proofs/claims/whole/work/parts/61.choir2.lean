/-! ===== the class: the choir is changed ===== -/
theorem chset56 {A : XA} {F u u' v v' : Nat → Int32} (h1 : u = u') (h2 : v = v') : List.set (List.set (CH A F) 5 (.inl (0, 8, .inl u))) 6 (.inl (0, 8, .inl v)) = CH (aset (aset A 5 u') 6 v') F := by
  subst h1 h2
  rfl
def sX1_hearAsInRing : XS := fun as w post => ∃ (A : XA) (F : Nat → Int32) (k : Nat), as = [.ref 0] ∧ w = CH A F ∧ F 12 = nI k ∧ k ≤ 8 ∧ ∀ A', sm [5, 6] A' A → (∀ i, i < k → A' 5 i = cif (A 7 i = 0) (nI ((i + k - 1) % k)) (A 5 i)) → (∀ i, i < k → A' 6 i = cif (A 7 i = 0) (nI ((i + 2 * k - 2) % k)) (A 6 i)) → post none (CH A' F)
set_option maxRecDepth 10000 in
set_option maxHeartbeats 1000000 in
theorem mX1_hearAsInRing (d : Nat) (hd : 0 ≤ d) : xCT d yX1_hearAsInRing cX1_hearAsInRing 2 none sX1_hearAsInRing := by
  refine xmet (tb := tX1_hearAsInRing) (fl := fX1) (kc := nX1) (gs := g0) (cl := xlk []) (by decide) tX1_hearAsInRing_ok fX1_ok nX1_ok g0_ok xg_nil ?_
  rintro L xs as w Qp ⟨A, F, k, rfl, rfl, hk, hk8, h⟩
  refine ⟨Nat.le_of_ble_eq_true rfl, 400, xlk [(2, 2)], fun m pc ls st w => pc = 2 ∧ st = [] ∧ ∃ i A', i ≤ k ∧ m = k - i ∧ ls = [(0, .ref 0), (1, .int (nI i))] ∧ w = CH A' F ∧ sm [5, 6] A' A ∧ (∀ j, j < k → A' 5 j = cif (j < i ∧ A 7 j = 0) (nI ((j + k - 1) % k)) (A 5 j)) ∧ (∀ j, j < k → A' 6 j = cif (j < i ∧ A 7 j = 0) (nI ((j + 2 * k - 2) % k)) (A 6 j)), ?_, ?_⟩
  · exact ⟨k, rfl, rfl, 0, A, Nat.zero_le _, rfl, rfl, rfl, sm_rf, fun j _ => (cif_f (fun q => absurd q.1 (Nat.not_lt_zero _))).symm, fun j _ => (cif_f (fun q => absurd q.1 (Nat.not_lt_zero _))).symm⟩
  · rintro m pc m9 ls st w hc ⟨rfl, rfl, i, A', hi, rfl, rfl, rfl, hS, h5, h6⟩
    refine And.intro (fun g => ?_) (fun g => ?_)
    · have := ge_n hk (by omega) (by omega) g
      exact h A' hS (fun j hj => by rw [h5 j hj]; exact cifP ⟨fun q => q.2, fun q => ⟨by omega, q⟩⟩ _ _) (fun j hj => by rw [h6 j hj]; exact cifP ⟨fun q => q.2, fun q => ⟨by omega, q⟩⟩ _ _)
    · have hlt := nge_n hk (by omega) (by omega) g
      have ei : (nI i).toNatClampNeg = i := cl (by omega)
      have i0 : vp_in (nI i) 8 := vp_in_nI (by omega) (by decide)
      have hz : ¬ F 12 = 0 := by rw [hk]; exact nI_ne0 (by omega) (by omega)
      refine And.intro i0 ?_
      refine And.intro (fun g2 => ?_) (fun g2 => ?_)
      · have g2 : ¬ A' 7 (nI i).toNatClampNeg = 0 := g2
        rw [ei, hS 7 rfl] at g2
        refine ⟨k - (i + 1), by omega, rfl, rfl, i + 1, A', hlt, rfl, by rw [← nI_1 i]; rfl, rfl, hS, fun j hj => ?_, fun j hj => ?_⟩
        · rw [h5 j hj]
          exact cifP ⟨fun q => ⟨by omega, q.2⟩, fun q => ⟨by
            rcases Nat.lt_or_ge j i with q2 | q2
            · exact q2
            · have : j = i := by omega
              rw [this] at q
              exact absurd q.2 g2, q.2⟩⟩ _ _
        · rw [h6 j hj]
          exact cifP ⟨fun q => ⟨by omega, q.2⟩, fun q => ⟨by
            rcases Nat.lt_or_ge j i with q2 | q2
            · exact q2
            · have : j = i := by omega
              rw [this] at q
              exact absurd q.2 g2, q.2⟩⟩ _ _
      · have g2 : A' 7 (nI i).toNatClampNeg = 0 := Classical.byContradiction g2
        rw [ei, hS 7 rfl] at g2
        have e1 : (nI i + F 12 - 1) - (nI i + F 12 - 1) / F 12 * F 12 = nI ((i + k - 1) % k) := by
          rw [hk, nI_add, show (1 : Int32) = nI 1 from rfl, pk_sub (by omega), pk_rem (by omega) (by omega) (by omega)]
        have e2 : (nI i + 2 * F 12 - 2) - (nI i + 2 * F 12 - 2) / F 12 * F 12 = nI ((i + 2 * k - 2) % k) := by
          rw [hk, show (2 : Int32) = nI 2 from rfl, pk_mul, nI_add, pk_sub (by omega), pk_rem (by omega) (by omega) (by omega)]
        have u1 : upd (A' 5) (nI i).toNatClampNeg ((nI i + F 12 - 1) - (nI i + F 12 - 1) / F 12 * F 12) = upd (A' 5) i (nI ((i + k - 1) % k)) := by rw [ei, e1]
        have u2 : upd (A' 6) (nI i).toNatClampNeg ((nI i + 2 * F 12 - 2) - (nI i + 2 * F 12 - 2) / F 12 * F 12) = upd (A' 6) i (nI ((i + 2 * k - 2) % k)) := by rw [ei, e2]
        refine And.intro hz (And.intro i0 (And.intro hz (And.intro i0 ?_)))
        refine ⟨k - (i + 1), by omega, rfl, rfl, i + 1, aset (aset A' 5 (upd (A' 5) i (nI ((i + k - 1) % k)))) 6 (upd (A' 6) i (nI ((i + 2 * k - 2) % k))), hlt, rfl, by rw [← nI_1 i]; rfl, chset56 u1 u2, sm_tr hS (sm_tr (sm_aset (q := 5) rfl) (sm_aset rfl)), fun j hj => ?_, fun j hj => ?_⟩
        · show upd (A' 5) i (nI ((i + k - 1) % k)) j = _
          by_cases q : j = i
          · subst q
            rw [pk_us, cif_t ⟨by omega, g2⟩]
          · rw [pk_un q, h5 j hj]
            exact cifP ⟨fun q => ⟨by omega, q.2⟩, fun q => ⟨by omega, q.2⟩⟩ _ _
        · show upd (A' 6) i (nI ((i + 2 * k - 2) % k)) j = _
          by_cases q : j = i
          · subst q
            rw [pk_us, cif_t ⟨by omega, g2⟩]
          · rw [pk_un q, h6 j hj]
            exact cifP ⟨fun q => ⟨by omega, q.2⟩, fun q => ⟨by omega, q.2⟩⟩ _ _
def sX1_join : XS := fun as w post => ∃ (A : XA) (F : Nat → Int32) (k : Nat) (a b : Int32), as = [.ref 0, .int a, .int b] ∧ w = CH A F ∧ F 12 = nI k ∧ k < 8 ∧ ∀ A' F', sm [1, 2, 3, 4, 5, 6, 7] A' A → A' 1 = upd (A 1) k a → A' 2 = upd (A 2) k b → A' 3 = upd (A 3) k 0 → A' 4 = upd (A 4) k (-1) → A' 7 = upd (A 7) k 0 → (∀ i, i < k + 1 → A' 5 i = cif (A' 7 i = 0) (nI ((i + (k + 1) - 1) % (k + 1))) (A 5 i)) → (∀ i, i < k + 1 → A' 6 i = cif (A' 7 i = 0) (nI ((i + 2 * (k + 1) - 2) % (k + 1))) (A 6 i)) → F' = fset F 12 (nI (k + 1)) → post (some (.int (nI k))) (CH A' F')
theorem chsetj {A : XA} {F u1 u2 u3 u4 u7 v1 v2 v3 v4 v7 : Nat → Int32} {x y : Int32} (h1 : u1 = v1) (h2 : u2 = v2) (h3 : u3 = v3) (h4 : u4 = v4) (h7 : u7 = v7) (hx : x = y) : List.set (List.set (List.set (List.set (List.set (List.set (CH A F) 1 (.inl (0, 8, .inl u1))) 2 (.inl (0, 8, .inl u2))) 3 (.inl (0, 8, .inl u3))) 4 (.inl (0, 8, .inl u4))) 7 (.inl (0, 8, .inl u7))) 0 (.inr (1, [.ref 1, .ref 2, .ref 3, .ref 4, .ref 5, .ref 6, .ref 7, .ref 8, .ref 9, .ref 10, .ref 14, .int (F 11), .int x, .int (F 13), .int (F 14), .int (F 15), .int (F 16)])) = CH (aset (aset (aset (aset (aset A 1 v1) 2 v2) 3 v3) 4 v4) 7 v7) (fset F 12 y) := by
  subst h1 h2 h3 h4 h7 hx
  rfl
set_option maxRecDepth 10000 in
set_option maxHeartbeats 1000000 in
theorem mX1_join (d : Nat) (hd : 1 ≤ d) : xCT d yX1_join cX1_join 4 (some .int) sX1_join := by
  obtain ⟨d, rfl⟩ : ∃ e, d = e + 1 := ⟨d - 1, by omega⟩
  refine xmet0 (tb := tX1_join) (fl := fX1) (kc := nX1) (gs := g0) (cl := xlk [(69, true, 1, xrcv 1 (sX1_hearAsInRing))]) 400 (by decide) tX1_join_ok fX1_ok nX1_ok g0_ok (xg_cons (k_X1_69 (mX1_hearAsInRing d (by omega))) xg_nil) ?_
  rintro L xs as w Qp ⟨A, F, k, a, b, rfl, rfl, hk, hk8, h⟩
  refine ⟨Nat.le_of_ble_eq_true rfl, ?_⟩
  have ek : (F 12).toNatClampNeg = k := by rw [hk, cl (by omega)]
  have i0 : vp_in (F 12) 8 := by rw [hk]; exact vp_in_nI (by omega) (by decide)
  have u : ∀ (f : Nat → Int32) x, upd f (F 12).toNatClampNeg x = upd f k x := fun f x => by rw [ek]
  refine And.intro i0 (And.intro i0 (And.intro i0 (And.intro i0 (And.intro i0 ?_))))
  refine ⟨aset (aset (aset (aset (aset A 1 (upd (A 1) k a)) 2 (upd (A 2) k b)) 3 (upd (A 3) k 0)) 4 (upd (A 4) k (-1))) 7 (upd (A 7) k 0), fset F 12 (nI (k + 1)), k + 1, rfl, ?_, rfl, by omega, fun A2 hS2 h5 h6 => ?_⟩
  · exact chsetj (u _ _) (u _ _) (u _ _) (u _ _) (u _ _) (by rw [hk]; exact nI_1 k)
  · have h9 := h A2 (fset F 12 (nI (k + 1))) (sm_tr (sm_tr (sm_aset (q := 1) rfl) (sm_tr (sm_aset (q := 2) rfl) (sm_tr (sm_aset (q := 3) rfl) (sm_tr (sm_aset (q := 4) rfl) (sm_aset (q := 7) rfl))))) (sm_w hS2 rfl)) (hS2 1 rfl) (hS2 2 rfl) (hS2 3 rfl) (hS2 4 rfl) (hS2 7 rfl) (fun i hi => by rw [h5 i hi, hS2 7 rfl]; rfl) (fun i hi => by rw [h6 i hi, hS2 7 rfl]; rfl) rfl
    rw [← hk] at h9
    exact h9
theorem crd_1 {n v : Nat} (hn2 : 2 ≤ n) (hn12 : n ≤ 12) (hv : v < n) : crd (nI n) ((nI v).toInt64 + 1) = rm (nI v + 1) (nI n) := by
  rw [(crd_val (by omega) (by omega) _).1]
  unfold rm
  rw [nI_1, pk_rem (by omega) (by omega) (by omega)]
  congr 1
  have e : ((nI v).toInt64 + 1).toInt = (v : Int) + 1 := by
    rw [Int64.toInt_add, Int32.toInt_toInt64, nI_toInt (by omega)]
    show ((v : Int) + (1 : Int64).toInt).bmod _ = _
    rw [show (1 : Int64).toInt = 1 from rfl]
    exact Int.bmod_eq_of_le (by omega) (by omega)
  have e2 : ((v : Int) + 1) % (n : Int) = (((v + 1) % n : Nat) : Int) := (Int.natCast_emod (v + 1) n).symm
  rw [e, e2, Int.toNat_natCast]
def sX1_slip : XS := fun as w post => ∃ (A : XA) (F : Nat → Int32) (n k : Nat) (p : Int32), as = [.ref 0, .int p] ∧ w = CH A F ∧ F 11 = nI n ∧ 2 ≤ n ∧ n ≤ 12 ∧ F 12 = nI k ∧ 0 < k ∧ k ≤ 8 ∧ (∀ i, i < k → bd (A 3 i) n) ∧ ∀ A', sm [3] A' A → A' 3 = cif (rm (drO (dr1 (dr1 (F 14)))) 100 < p) (upd (A 3) (sx k (F 14)) (rm (A 3 (sx k (F 14)) + 1) (nI n))) (A 3) → post none (CH A' (fset F 14 (dr1 (dr1 (F 14)))))
theorem chset3 {A : XA} {F u u' : Nat → Int32} (h : u = u') : List.set (CH A F) 3 (.inl (0, 8, .inl u)) = CH (aset A 3 u') F := by
  subst h
  rfl
set_option maxRecDepth 10000 in
set_option maxHeartbeats 1000000 in
theorem mX1_slip (d : Nat) (hd : 1 ≤ d) : xCT d yX1_slip cX1_slip 3 none sX1_slip := by
  obtain ⟨d, rfl⟩ : ∃ e, d = e + 1 := ⟨d - 1, by omega⟩
  refine xmet (tb := tX1_slip) (fl := fX1) (kc := nX1) (gs := g0) (cl := xlk [(90, true, 1, xrcv 1 (sX1_draw)), (94, true, 2, xrcv 1 (sX1_countedRound))]) (by decide) tX1_slip_ok fX1_ok nX1_ok g0_ok (xg_cons (k_X1_90 (mX1_draw d (by omega))) (xg_cons (k_X1_94 (mX1_countedRound d (by omega))) xg_nil)) ?_
  rintro L xs as w Qp ⟨A, F, n, k, p, rfl, rfl, hn, hn2, hn12, hk, hk0, hk8, hb, h⟩
  have hz : ¬ F 12 = 0 := by rw [hk]; exact nI_ne0 (by omega) (by omega)
  obtain ⟨j, hj, ej⟩ := rm_b (dr1 (F 14)) hk0 (by omega)
  have esx : sx k (F 14) = j := by
    unfold sx
    rw [ej, cl (by omega)]
  refine ⟨Nat.le_of_ble_eq_true rfl, 400, xlk [(21, 3)], fun m pc ls st w => pc = 21 ∧ st = [] ∧ ls = [(0, .ref 0), (1, .int p), (2, .int (nI j))] ∧ w = CH A (fset F 14 (dr1 (F 14))), ?_, ?_⟩
  · refine And.intro (fun g => ?_) (fun g => ?_)
    · refine ⟨A, F, rfl, rfl, ?_⟩
      refine And.intro hz ?_
      refine ⟨0, rfl, rfl, ?_, rfl⟩
      rw [← ej, ← hk]
      rfl
    · exact absurd (Classical.byContradiction g) hz
  · rintro m pc m9 ls st w hc ⟨rfl, rfl, rfl, rfl⟩
    refine ⟨A, fset F 14 (dr1 (F 14)), rfl, rfl, ?_⟩
    refine And.intro (by decide) ?_
    have hfs : ∀ x, fset (fset F 14 (dr1 (F 14))) 14 x = fset F 14 x := fun x => by
      funext q
      by_cases e : q = 14
      · subst e
        show x = x
        rfl
      · rw [fsN e, fsN e, fsN e]
    have e14 : fset F 14 (dr1 (F 14)) 14 = dr1 (F 14) := rfl
    refine And.intro (fun g => ?_) (fun g => ?_)
    · have g : p ≤ rm (drO (dr1 (dr1 (F 14)))) 100 := g
      have h9 := h A sm_rf (cif_f (fun q => (fa_of_lt q).2.1 g)).symm
      rw [← hfs] at h9
      exact h9
    · have g : ¬ p ≤ rm (drO (dr1 (dr1 (F 14)))) 100 := g
      have ij : vp_in (nI j) 8 := vp_in_nI (by omega) (by decide)
      refine And.intro ij ?_
      refine ⟨A, _, (A 3 (nI j).toNatClampNeg).toInt64 + 1, n, rfl, rfl, hn, hn2, hn12, ?_⟩
      refine And.intro ij ?_
      obtain ⟨v, hv, ev⟩ := hb j hj
      have e3 : upd (A 3) (nI j).toNatClampNeg (crd (nI n) ((A 3 (nI j).toNatClampNeg).toInt64 + 1)) = upd (A 3) (sx k (F 14)) (rm (A 3 (sx k (F 14)) + 1) (nI n)) := by rw [esx, cl (by omega), ev, crd_1 hn2 hn12 hv]
      have h9 := h (aset A 3 (upd (A 3) (sx k (F 14)) (rm (A 3 (sx k (F 14)) + 1) (nI n)))) (sm_aset rfl) (cif_t (fa_of_nle g)).symm
      rw [← hfs, ← chset3 e3] at h9
      exact h9
