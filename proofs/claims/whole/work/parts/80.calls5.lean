/-! ===== the class's calls: what is told ===== -/
theorem ti {x : Int32} {v : Nat} (hv : v < 2 ^ 31) : x.toInt = (v : Int) ↔ x = nI v := ⟨fun q => tI v hv q, fun q => by rw [q, nI_toInt hv]⟩
def sX9_ofSinger : XS := fun as w post => ∃ (s t u : Bool) (A : XA) (F : Nat → Int32) (mA : XA) (mF : Nat → Int32) (c n k : Nat) (x y : Int32), as = [.ref 0, .int x, .int y] ∧ w = CW s t u A F ∧ CI mA mF n k ∧ Rel mA mF A F ∧ Aux (mA 1) A F c ∧ c < 2 ^ 28 ∧ cQ (qofSinger x y mA mF) c post
set_option maxRecDepth 10000 in
set_option maxHeartbeats 1000000 in
theorem mX9_ofSinger (d : Nat) (hd : 6 ≤ d) : xCT d yX9_ofSinger cX9_ofSinger 3 (some .int) sX9_ofSinger := by
  obtain ⟨d, rfl⟩ : ∃ e, d = e + 1 := ⟨d - 1, by omega⟩
  refine xmet0 (tb := tX9_ofSinger) (fl := fX9) (kc := nX9) (gs := g0) (cl := xlk [(117, true, 2, xrcv 1 (sX1_has_W)), (86, true, 2, xrcv 9 (sX9_fail)), (133, true, 3, xrcv 9 (sX9_noteAhead))]) 400 (by decide) tX9_ofSinger_ok fX9_ok nX9_ok g0_ok (xg_cons (k_X9_117 (mX1_has_W d (by omega))) (xg_cons (k_X9_86 (mX9_fail d (by omega))) (xg_cons (k_X9_133 (mX9_noteAhead d (by omega))) xg_nil))) ?_
  rintro L xs as w Qp ⟨s, t, u, A, F, mA, mF, c, n, k, x, y, rfl, rfl, hC, hR, hX, hc, h⟩
  obtain ⟨hn, hn2, hn12, hk, hk8, hF11, hF12, hA, hKV, h54, h58⟩ := ctx hC hR hX
  refine ⟨Nat.le_of_ble_eq_true rfl, ?_⟩
  refine ⟨s, t, u, A, F, x, k, rfl, rfl, hF12, hk8, fun i hi es => ?_, fun g => ?_⟩
  · subst es
    refine br_t xc_ne1 ?_
    have ei : (nI i).toNatClampNeg = i := cl (by omega)
    have i0 : vp_in (nI i) 8 := vp_in_nI (by omega) (by decide)
    obtain ⟨a0, a1, a2, a3, a4, a5, a6⟩ := hA i hi
    have sl : ∀ {v : Nat}, v < 8 → y.toInt = (v : Int) → y = nI v := fun hv e => tI _ (by omega) e
    have inn : ∀ v : Nat, v ≤ 7 → (0 : Int32) ≤ nI v ∧ nI v ≤ 7 := fun v hv => ⟨nI_pos' (by omega), nI_le (b := 7) hv (by omega)⟩
    have nn : ∀ v w : Nat, v < 8 → w < 8 → v ≠ w → ¬ nI v = nI w := fun v w hv hw hne q => hne (nI_inj (by omega) (by omega) q)
    refine And.intro (And.intro (fun g => ?_) (And.intro (fun g => ?_) (And.intro (fun g => ?_) (And.intro (fun g => ?_) (And.intro (fun g => ?_) (And.intro (fun g => ?_) (And.intro (fun g => ?_) (And.intro (fun g => ?_) trivial)))))))) (fun g => ?_)
    · have e : y = nI 0 := sl (by omega) g
      subst e
      refine And.intro i0 ?_
      refine cQ_s h (cif_t' ⟨isS_i hk hk8 hi, inn 0 (by omega)⟩ (cif_f' (nn 0 5 (by omega) (by omega) (by omega)) (cif_f' (nn 0 6 (by omega) (by omega) (by omega)) (cif_f' (nn 0 7 (by omega) (by omega) (by omega)) ?_)))) hR hX
      rw [ei, show (nI 0).toNatClampNeg = 0 from cl (by omega)]
      exact congrArg (fun z => (z, mA, mF)) a0.symm
    · have e : y = nI 1 := sl (by omega) g
      subst e
      refine And.intro i0 ?_
      refine cQ_s h (cif_t' ⟨isS_i hk hk8 hi, inn 1 (by omega)⟩ (cif_f' (nn 1 5 (by omega) (by omega) (by omega)) (cif_f' (nn 1 6 (by omega) (by omega) (by omega)) (cif_f' (nn 1 7 (by omega) (by omega) (by omega)) ?_)))) hR hX
      rw [ei, show (nI 1).toNatClampNeg = 1 from cl (by omega)]
      exact congrArg (fun z => (z, mA, mF)) a1.symm
    · have e : y = nI 2 := sl (by omega) g
      subst e
      refine And.intro i0 ?_
      refine cQ_s h (cif_t' ⟨isS_i hk hk8 hi, inn 2 (by omega)⟩ (cif_f' (nn 2 5 (by omega) (by omega) (by omega)) (cif_f' (nn 2 6 (by omega) (by omega) (by omega)) (cif_f' (nn 2 7 (by omega) (by omega) (by omega)) ?_)))) hR hX
      rw [ei, show (nI 2).toNatClampNeg = 2 from cl (by omega)]
      exact congrArg (fun z => (z, mA, mF)) a2.symm
    · have e : y = nI 3 := sl (by omega) g
      subst e
      refine And.intro i0 ?_
      refine cQ_s h (cif_t' ⟨isS_i hk hk8 hi, inn 3 (by omega)⟩ (cif_f' (nn 3 5 (by omega) (by omega) (by omega)) (cif_f' (nn 3 6 (by omega) (by omega) (by omega)) (cif_f' (nn 3 7 (by omega) (by omega) (by omega)) ?_)))) hR hX
      rw [ei, show (nI 3).toNatClampNeg = 3 from cl (by omega)]
      exact congrArg (fun z => (z, mA, mF)) a3.symm
    · have e : y = nI 4 := sl (by omega) g
      subst e
      refine And.intro i0 ?_
      refine cQ_s h (cif_t' ⟨isS_i hk hk8 hi, inn 4 (by omega)⟩ (cif_f' (nn 4 5 (by omega) (by omega) (by omega)) (cif_f' (nn 4 6 (by omega) (by omega) (by omega)) (cif_f' (nn 4 7 (by omega) (by omega) (by omega)) ?_)))) hR hX
      rw [ei, show (nI 4).toNatClampNeg = 4 from cl (by omega)]
      exact congrArg (fun z => (z, mA, mF)) a4.symm
    · have e : y = nI 5 := sl (by omega) g
      subst e
      refine ⟨s, t, u, A, F, mA, mF, c, n, k, 1, i, rfl, rfl, hC, hR, hX, by omega, hi, fun s' A' v hR' hX' hv => ?_⟩
      refine cQ_s h (cif_t' ⟨isS_i hk hk8 hi, inn 5 (by omega)⟩ (cif_t' rfl ?_)) hR' hX'
      rw [hv, ei]
      show (nxt (mA 1) i _ _, mA, mF) = (stp (mA 1) k (nw (mA 1)) i, mA, mF)
      unfold stp
      rw [if_pos hi]
      rfl
    · have e : y = nI 6 := sl (by omega) g
      subst e
      refine And.intro i0 ?_
      refine cQ_s h (cif_t' ⟨isS_i hk hk8 hi, inn 6 (by omega)⟩ (cif_f' (nn 6 5 (by omega) (by omega) (by omega)) (cif_t' rfl ?_))) hR hX
      rw [ei]
      exact congrArg (fun z => (z, mA, mF)) a5.symm
    · have e : y = nI 7 := sl (by omega) g
      subst e
      refine And.intro i0 ?_
      refine cQ_s h (cif_t' ⟨isS_i hk hk8 hi, inn 7 (by omega)⟩ (cif_f' (nn 7 5 (by omega) (by omega) (by omega)) (cif_f' (nn 7 6 (by omega) (by omega) (by omega)) (cif_t' rfl ?_)))) hR hX
      rw [ei]
      exact congrArg (fun z => (z, mA, mF)) a6.symm
    · refine ⟨s, t, u, A, F, 1, rfl, rfl, by decide, by decide, ?_⟩
      refine cQ_e h (cif_f' (fun q => ?_) rfl) hR hX
      have q1 := q.2.1
      have q2 := q.2.2
      rw [fa_le] at q1 q2
      have q1 : (0 : Int) ≤ y.toInt := q1
      have q2 : y.toInt ≤ 7 := q2
      rcases g with g | g
      · have g : y.toInt < 0 := g
        omega
      · have g : 7 < y.toInt := g
        omega
  · refine br_f xc_ne0 ?_
    refine ⟨s, t, u, A, F, 1, rfl, rfl, by decide, by decide, ?_⟩
    exact cQ_e h (cif_f' (fun q => isS_n hk hk8 g q.1) rfl) hR hX
theorem wsh_cnt {d f : Nat → Int32} : ∀ k, (∀ i, i < k → f i = d (8 + 8 * i + 5)) → cntP (fun i => 0 ≤ f i) k = wsh d k
  | 0, _ => rfl
  | k + 1, h => by
    show cif (0 ≤ f k) (cntP (fun i => 0 ≤ f i) k + 1) (cntP (fun i => 0 ≤ f i) k) = wsh d k + cif (0 ≤ d (8 + 8 * k + 5)) 1 0
    rw [wsh_cnt k (fun i hi => h i (by omega)), h k (by omega)]
    by_cases g : 0 ≤ d (8 + 8 * k + 5)
    · rw [cif_t g, cif_t g]
    · rw [cif_f g, cif_f g]
      rfl
def sX9_count : XS := fun as w post => ∃ (s t u : Bool) (A : XA) (F : Nat → Int32) (mA : XA) (mF : Nat → Int32) (c n k : Nat) (y : Int32), as = [.ref 0, .int y] ∧ w = CW s t u A F ∧ CI mA mF n k ∧ Rel mA mF A F ∧ Aux (mA 1) A F c ∧ c < 2 ^ 28 ∧ cQ (qcount y mA mF) c post
set_option maxRecDepth 10000 in
set_option maxHeartbeats 1000000 in
theorem mX9_count (d : Nat) (hd : 1 ≤ d) : xCT d yX9_count cX9_count 2 (some .int) sX9_count := by
  obtain ⟨d, rfl⟩ : ∃ e, d = e + 1 := ⟨d - 1, by omega⟩
  refine xmet0 (tb := tX9_count) (fl := fX9) (kc := nX9) (gs := g0) (cl := xlk [(335, true, 1, xrcv 1 (sX1_wishing_W)), (86, true, 2, xrcv 9 (sX9_fail))]) 400 (by decide) tX9_count_ok fX9_ok nX9_ok g0_ok (xg_cons (k_X9_335 (mX1_wishing_W d (by omega))) (xg_cons (k_X9_86 (mX9_fail d (by omega))) xg_nil)) ?_
  rintro L xs as w Qp ⟨s, t, u, A, F, mA, mF, c, n, k, y, rfl, rfl, hC, hR, hX, hc, h⟩
  obtain ⟨hn, hn2, hn12, hk, hk8, hF11, hF12, hA, hKV, h54, h58⟩ := ctx hC hR hX
  refine ⟨Nat.le_of_ble_eq_true rfl, ?_⟩
  have sl : ∀ {v : Nat}, v < 8 → y.toInt = (v : Int) → y = nI v := fun hv e => tI _ (by omega) e
  have nn : ∀ v w : Nat, v < 8 → w < 8 → v ≠ w → ¬ nI v = nI w := fun v w hv hw hne q => hne (nI_inj (by omega) (by omega) q)
  have n0 : ∀ v w : Nat, v < 8 → w < 8 → v ≠ w → ¬ nI v = nI w := nn
  refine And.intro (And.intro (fun g => ?_) (And.intro (fun g => ?_) (And.intro (fun g => ?_) (And.intro (fun g => ?_) (And.intro (fun g => ?_) (And.intro (fun g => ?_) (And.intro (fun g => ?_) (And.intro (fun g => ?_) trivial)))))))) (fun g => ?_)
  · have e : y = nI 0 := sl (by omega) g
    subst e
    exact cQ_s h (cif_t' rfl (by rw [show F 13 = mA 1 0 from hR.1.2.2.1])) hR hX
  · have e : y = nI 1 := sl (by omega) g
    subst e
    exact cQ_s h (cif_f' (nn 1 0 (by omega) (by omega) (by omega)) (cif_t' rfl (by rw [show F 11 = mA 1 1 from hR.1.1]))) hR hX
  · have e : y = nI 2 := sl (by omega) g
    subst e
    exact cQ_s h (cif_f' (nn 2 0 (by omega) (by omega) (by omega)) (cif_f' (nn 2 1 (by omega) (by omega) (by omega)) (cif_t' rfl (by rw [show F 12 = mA 1 2 from hR.1.2.1])))) hR hX
  · have e : y = nI 3 := sl (by omega) g
    subst e
    refine ⟨s, t, u, A, F, k, rfl, rfl, hF12, hk8, ?_⟩
    exact cQ_s h (cif_f' (nn 3 0 (by omega) (by omega) (by omega)) (cif_f' (nn 3 1 (by omega) (by omega) (by omega)) (cif_f' (nn 3 2 (by omega) (by omega) (by omega)) (cif_t' rfl (by rw [hk, cl (by omega), wsh_cnt k (fun i hi => (hA i hi).2.2.2.2.2.1)]))))) hR hX
  · have e : y = nI 4 := sl (by omega) g
    subst e
    exact cQ_s h (cif_f' (nn 4 0 (by omega) (by omega) (by omega)) (cif_f' (nn 4 1 (by omega) (by omega) (by omega)) (cif_f' (nn 4 2 (by omega) (by omega) (by omega)) (cif_f' (nn 4 3 (by omega) (by omega) (by omega)) (cif_t' rfl (by rw [show F 15 = mA 1 4 from hR.1.2.2.2.2.1])))))) hR hX
  · have e : y = nI 5 := sl (by omega) g
    subst e
    exact cQ_s h (cif_f' (nn 5 0 (by omega) (by omega) (by omega)) (cif_f' (nn 5 1 (by omega) (by omega) (by omega)) (cif_f' (nn 5 2 (by omega) (by omega) (by omega)) (cif_f' (nn 5 3 (by omega) (by omega) (by omega)) (cif_f' (nn 5 4 (by omega) (by omega) (by omega)) (cif_t' rfl (by rw [show F 16 = mA 1 5 from hR.1.2.2.2.2.2.1]))))))) hR hX
  · have e : y = nI 6 := sl (by omega) g
    subst e
    exact cQ_s h (cif_f' (nn 6 0 (by omega) (by omega) (by omega)) (cif_f' (nn 6 1 (by omega) (by omega) (by omega)) (cif_f' (nn 6 2 (by omega) (by omega) (by omega)) (cif_f' (nn 6 3 (by omega) (by omega) (by omega)) (cif_f' (nn 6 4 (by omega) (by omega) (by omega)) (cif_f' (nn 6 5 (by omega) (by omega) (by omega)) (cif_t' rfl (by rw [show F 70 = mF 24 from hR.2.2.2.2.2.2.1.2])))))))) hR hX
  · have e : y = nI 7 := sl (by omega) g
    subst e
    exact cQ_s h (cif_f' (nn 7 0 (by omega) (by omega) (by omega)) (cif_f' (nn 7 1 (by omega) (by omega) (by omega)) (cif_f' (nn 7 2 (by omega) (by omega) (by omega)) (cif_f' (nn 7 3 (by omega) (by omega) (by omega)) (cif_f' (nn 7 4 (by omega) (by omega) (by omega)) (cif_f' (nn 7 5 (by omega) (by omega) (by omega)) (cif_f' (nn 7 6 (by omega) (by omega) (by omega)) (cif_t' rfl (by rw [show F 14 = mA 1 3 from hR.1.2.2.2.1]))))))))) hR hX
  · have ne : ∀ v : Nat, v < 8 → ¬ y = nI v := fun v hv q => by
      rw [q, nI_toInt (by omega)] at g
      rcases g with g | g <;> omega
    refine ⟨s, t, u, A, F, 1, rfl, rfl, by decide, by decide, ?_⟩
    exact cQ_e h (cif_f' (ne 0 (by omega)) (cif_f' (ne 1 (by omega)) (cif_f' (ne 2 (by omega)) (cif_f' (ne 3 (by omega)) (cif_f' (ne 4 (by omega)) (cif_f' (ne 5 (by omega)) (cif_f' (ne 6 (by omega)) (cif_f' (ne 7 (by omega)) rfl)))))))) hR hX
def sX9_told : XS := fun as w post => ∃ (s t u : Bool) (A : XA) (F : Nat → Int32) (mA : XA) (mF : Nat → Int32) (c n k : Nat) (y : Int32), as = [.ref 0, .int y] ∧ w = CW s t u A F ∧ CI mA mF n k ∧ Rel mA mF A F ∧ Aux (mA 1) A F c ∧ c < 2 ^ 28 ∧ cQ (qtold y mA mF) c post
set_option maxRecDepth 10000 in
set_option maxHeartbeats 1000000 in
theorem mX9_told (d : Nat) (hd : 1 ≤ d) : xCT d yX9_told cX9_told 2 (some .int) sX9_told := by
  obtain ⟨d, rfl⟩ : ∃ e, d = e + 1 := ⟨d - 1, by omega⟩
  refine xmet0 (tb := tX9_told) (fl := fX9) (kc := nX9) (gs := g0) (cl := xlk [(82, false, 3, sX9_within), (86, true, 2, xrcv 9 (sX9_fail))]) 400 (by decide) tX9_told_ok fX9_ok nX9_ok g0_ok (xg_cons (k_X9_82 (mX9_within d (by omega))) (xg_cons (k_X9_86 (mX9_fail d (by omega))) xg_nil)) ?_
  rintro L xs as w Qp ⟨s, t, u, A, F, mA, mF, c, n, k, y, rfl, rfl, hC, hR, hX, hc, h⟩
  obtain ⟨hn, hn2, hn12, hk, hk8, hF11, hF12, hA, hKV, h54, h58⟩ := ctx hC hR hX
  refine ⟨Nat.le_of_ble_eq_true rfl, ?_⟩
  refine ⟨y, 1, 5, rfl, fun g1 g2 => ?_, fun g => ?_⟩
  · refine br_f xc_eq1 ?_
    obtain ⟨j, hj, ej⟩ := rg (c := 5) (by omega) (show (0 : Int32) ≤ y from by
      rw [fa_le] at g1 ⊢
      exact Int.le_trans (by decide) g1) g2
    have hj1 : 1 ≤ j := by
      rw [ej, show (1 : Int32) = nI 1 from rfl, fa_le, nI_toInt (by omega), nI_toInt (by omega)] at g1
      omega
    subst ej
    refine And.intro (vp_in_nI (by omega) (by decide)) ?_
    exact cQ_s h (cif_t' ⟨g1, g2⟩ (by rw [cl (by omega), hR.2.2.2.1 j hj1 hj])) hR hX
  · refine br_t xc_eq0 ?_
    refine ⟨s, t, u, A, F, 1, rfl, rfl, by decide, by decide, ?_⟩
    exact cQ_e h (cif_f' g rfl) hR hX
def sX9_trace : XS := fun as w post => ∃ (s t u : Bool) (A : XA) (F : Nat → Int32) (mA : XA) (mF : Nat → Int32) (c n k : Nat) (y : Int32), as = [.ref 0, .int y] ∧ w = CW s t u A F ∧ CI mA mF n k ∧ Rel mA mF A F ∧ Aux (mA 1) A F c ∧ c < 2 ^ 28 ∧ cQ (qtrace y mA mF) c post
set_option maxRecDepth 10000 in
set_option maxHeartbeats 1000000 in
theorem mX9_trace (d : Nat) (hd : 1 ≤ d) : xCT d yX9_trace cX9_trace 2 (some .int) sX9_trace := by
  obtain ⟨d, rfl⟩ : ∃ e, d = e + 1 := ⟨d - 1, by omega⟩
  refine xmet0 (tb := tX9_trace) (fl := fX9) (kc := nX9) (gs := g0) (cl := xlk [(82, false, 3, sX9_within), (86, true, 2, xrcv 9 (sX9_fail))]) 400 (by decide) tX9_trace_ok fX9_ok nX9_ok g0_ok (xg_cons (k_X9_82 (mX9_within d (by omega))) (xg_cons (k_X9_86 (mX9_fail d (by omega))) xg_nil)) ?_
  rintro L xs as w Qp ⟨s, t, u, A, F, mA, mF, c, n, k, y, rfl, rfl, hC, hR, hX, hc, h⟩
  obtain ⟨hn, hn2, hn12, hk, hk8, hF11, hF12, hA, hKV, h54, h58⟩ := ctx hC hR hX
  have e70 : F 70 = mF 24 := hR.2.2.2.2.2.2.1.2
  refine ⟨Nat.le_of_ble_eq_true rfl, ?_⟩
  refine ⟨y, 0, F 70 - 1, rfl, fun g1 g2 => ?_, fun g => ?_⟩
  · refine br_f xc_eq1 ?_
    obtain ⟨j, hj, ej⟩ := hC.2.2.2.2.1
    have g2' := g2
    rw [e70, ej] at g2
    have g2 : y ≤ nI j - nI 1 := g2
    have hj1 : 1 ≤ j := by
      refine Classical.byContradiction (fun q => ?_)
      have : j = 0 := by omega
      rw [this] at g2
      rw [fa_le] at g1 g2
      have g2 : y.toInt ≤ -1 := g2
      have g1 : (0 : Int) ≤ y.toInt := g1
      omega
    rw [pk_sub hj1] at g2
    obtain ⟨i, hi, ei⟩ := rg (c := j - 1) (by omega) g1 g2
    subst ei
    refine And.intro (vp_in_nI (by omega) (by decide)) ?_
    exact cQ_s h (cif_t' ⟨g1, by rw [← e70]; exact g2'⟩ (by rw [hR.2.2.2.2.2.2.1.1])) hR hX
  · refine br_t xc_eq0 ?_
    refine ⟨s, t, u, A, F, 2, rfl, rfl, by decide, by decide, ?_⟩
    exact cQ_e h (cif_f' (by rw [← e70]; exact g) rfl) hR hX
def sX9_state : XS := fun as w post => ∃ (s t u : Bool) (A : XA) (F : Nat → Int32) (mA : XA) (mF : Nat → Int32) (c n k : Nat), as = [.ref 0] ∧ w = CW s t u A F ∧ CI mA mF n k ∧ Rel mA mF A F ∧ Aux (mA 1) A F c ∧ c < 2 ^ 28 ∧ (∀ v, v = (numF (mA 1 1) (nw (mA 1)) k 0).toInt64 → post (some (.long v)) (CW s t u A F))
set_option maxRecDepth 10000 in
set_option maxHeartbeats 1000000 in
theorem mX9_state (d : Nat) (hd : 1 ≤ d) : xCT d yX9_state cX9_state 1 (some .long) sX9_state := by
  obtain ⟨d, rfl⟩ : ∃ e, d = e + 1 := ⟨d - 1, by omega⟩
  refine xmet0 (tb := tX9_state) (fl := fX9) (kc := nX9) (gs := g0) (cl := xlk [(220, true, 2, xrcv 1 (sX1_stateOf_W))]) 400 (by decide) tX9_state_ok fX9_ok nX9_ok g0_ok (xg_cons (k_X9_220 (mX1_stateOf_W d (by omega))) xg_nil) ?_
  rintro L xs as w Qp ⟨s, t, u, A, F, mA, mF, c, n, k, rfl, rfl, hC, hR, hX, hc, h⟩
  obtain ⟨hn, hn2, hn12, hk, hk8, hF11, hF12, hA, hKV, h54, h58⟩ := ctx hC hR hX
  refine ⟨Nat.le_of_ble_eq_true rfl, ?_⟩
  refine ⟨s, t, u, A, F, k, rfl, rfl, hF12, hk8, fun v hv => ?_⟩
  refine h _ ?_
  rw [hv, show F 11 = mA 1 1 from hR.1.1, numF_cg k 0 (r' := nw (mA 1)) (fun i hi => (hA i hi).2.2.1)]
def sX9_law : XS := fun as w post => ∃ (s t u : Bool) (A : XA) (F : Nat → Int32) (mA : XA) (mF : Nat → Int32) (c n k : Nat) (x a b e f : Int32), as = [.ref 0, .int x, .int a, .int b, .int e, .int f] ∧ w = CW s t u A F ∧ CI mA mF n k ∧ Rel mA mF A F ∧ Aux (mA 1) A F c ∧ c < 2 ^ 28 ∧ cQ (qlaw x a b e f mA mF) c post
set_option maxRecDepth 10000 in
set_option maxHeartbeats 1000000 in
theorem mX9_law (d : Nat) (hd : 3 ≤ d) : xCT d yX9_law cX9_law 6 (some .int) sX9_law := by
  obtain ⟨d, rfl⟩ : ∃ e, d = e + 1 := ⟨d - 1, by omega⟩
  refine xmet0 (tb := tX9_law) (fl := fX9) (kc := nX9) (gs := g0) (cl := xlk [(189, true, 1, xrcv 2 (sX2_isMissing_W)), (192, true, 5, xrcv 2 (sX2_valueOf_W)), (196, true, 3, xrcv 1 (sX1_worthOf_W)), (86, true, 2, xrcv 9 (sX9_fail))]) 400 (by decide) tX9_law_ok fX9_ok nX9_ok g0_ok (xg_cons (k_X9_189 (mX2_isMissing_W d (by omega))) (xg_cons (k_X9_192 (mX2_valueOf_W d (by omega))) (xg_cons (k_X9_196 (mX1_worthOf_W d (by omega))) (xg_cons (k_X9_86 (mX9_fail d (by omega))) xg_nil)))) ?_
  rintro L xs as w Qp ⟨s, t, u, A, F, mA, mF, c, n, k, x, a, b, e, f, rfl, rfl, hC, hR, hX, hc, h⟩
  obtain ⟨hn, hn2, hn12, hk, hk8, hF11, hF12, hA, hKV, h54, h58⟩ := ctx hC hR hX
  refine ⟨Nat.le_of_ble_eq_true rfl, ?_⟩
  have hL : LH (A 12) (F 20) (tps (mA 1) 0) := hR.1.2.2.2.2.2.2.2.2.2.1
  refine And.intro (fun g => ?_) (fun g => And.intro (fun g2 => ?_) (fun g2 => ?_))
  · have ex : x = nI 0 := tI 0 (by decide) g
    subst ex
    refine ⟨s, t, u, A, F, rfl, rfl, fun g => ?_, fun g => ?_⟩
    · refine br_f xc_eq1 ?_
      refine cQ_s h (cif_t' rfl ?_) hR hX
      have e1 := adV_D hC.2.1 a b e f
      unfold adV at e1
      rw [cif_t ((LH_z hL).mp g)] at e1
      rw [← e1]
      rfl
    · refine br_t xc_eq0 ?_
      refine ⟨s, t, u, A, F, mA 1, a, b, e, f, rfl, rfl, hR.1, hC.2.1, g, fun A' v hS hv => ?_⟩
      obtain ⟨hR', hX'⟩ := run1 hC hR hX hS (by decide) rfl (KV_cg hKV (fun t ht => hS (39 + t) (row8 (by omega) (by decide))))
      exact cQ_s h (cif_t' rfl (by rw [hv])) hR' hX'
  · have g : ¬ x = nI 0 := fun q => g (by rw [q]; rfl)
    have ex : x = nI 1 := tI 1 (by decide) g2
    subst ex
    refine ⟨s, t, u, A, F, mA 1, a, b, rfl, rfl, hR.1, hC.2.2.1, fun A' v hv hS => ?_⟩
    obtain ⟨hR', hX'⟩ := run1 hC hR hX hS (by decide) rfl (KV_cg hKV (fun t ht => hS (39 + t) (row8 (by omega) (by decide))))
    exact cQ_s h (cif_f' g (cif_t' rfl (by rw [hv]))) hR' hX'
  · have g : ¬ x = nI 0 := fun q => g (by rw [q]; rfl)
    have g2 : ¬ x = nI 1 := fun q => g2 (by rw [q]; rfl)
    refine ⟨s, t, u, A, F, 1, rfl, rfl, by decide, by decide, ?_⟩
    exact cQ_e h (cif_f' g (cif_f' g2 rfl)) hR hX
