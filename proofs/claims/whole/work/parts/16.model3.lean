/-! ===== the reference: more calls without a bar ===== -/
def sX10_singer : XS := fun as w post => ∃ (A : XA) (F : Nat → Int32) (kind m : Int32) (k : Nat), as = [.ref 0, .int kind, .int m] ∧ w = LM A F ∧ A 1 2 = nI k ∧ k ≤ 8 ∧ sQ (qsinger kind m A F) post
set_option maxRecDepth 10000 in
set_option maxHeartbeats 1000000 in
theorem mX10_singer (d : Nat) (hd : 2 ≤ d) : xCT d yX10_singer cX10_singer 4 (some .int) sX10_singer := by
  obtain ⟨d, rfl⟩ : ∃ e, d = e + 1 := ⟨d - 1, by omega⟩
  refine xmet0 (tb := tX10_singer) (fl := fX10) (kc := nX10) (gs := g0) (cl := xlk [(65, false, 3, sX10_in), (128, true, 2, xrcv 10 (sX10_finds)), (152, true, 4, xrcv 10 (sX10_becomes)), (160, true, 1, xrcv 10 (sX10_hearRing))]) 400 (by decide) tX10_singer_ok fX10_ok nX10_ok g0_ok (xg_cons (k_X10_65 (mX10_in d (by omega))) (xg_cons (k_X10_128 (mX10_finds d (by omega))) (xg_cons (k_X10_152 (mX10_becomes d (by omega))) (xg_cons (k_X10_160 (mX10_hearRing d (by omega))) xg_nil)))) ?_
  rintro L xs as w Qp ⟨A, F, kind, m, k, rfl, rfl, hk, hk8, h⟩
  have hK : (A 1 2).toNatClampNeg = k := by rw [hk]; exact nI_clamp (by omega)
  refine ⟨Nat.le_of_ble_eq_true rfl, ?_⟩
  have bad : ¬ ((0 ≤ kind ∧ kind ≤ 6) ∧ (0 ≤ m ∧ m ≤ 99)) → Qp (some (.int (lo 1))) (LM (er A 1) F) := fun g => sQ_e h (cif_f' g rfl)
  refine ⟨kind, 0, 6, rfl, fun g1 g2 => ?_, fun g => ?_⟩
  · refine br_f xc_eq1 ?_
    refine ⟨m, 0, 99, rfl, fun g3 g4 => ?_, fun g => ?_⟩
    · refine br_t xc_ne1 ?_
      refine And.intro (vl 2 250 rfl rfl) ?_
      refine And.intro (fun g => ?_) (fun g => ?_)
      · have g : ¬ A 1 2 = 8 := g
        have hk7 : k < 8 := by
          rcases Nat.lt_or_ge k 8 with q | q
          · exact q
          · exact absurd (by rw [hk, show k = 8 by omega]; rfl) g
        refine And.intro (vl 2 250 rfl rfl) ?_
        have e : A 1 2 = nI k := hk
        refine ⟨A, F, k, 0, kind, by rw [← e]; rfl, rfl, by omega, ?_⟩
        refine ⟨_, F, k, 1, m, by rw [← e]; rfl, rfl, by omega, ?_⟩
        refine ⟨_, F, k, 2, 0, by rw [← e]; rfl, rfl, by omega, ?_⟩
        refine ⟨_, F, k, 5, -1, by rw [← e]; rfl, rfl, by omega, ?_⟩
        refine ⟨_, F, k, 6, 0, by rw [← e]; rfl, rfl, by omega, ?_⟩
        refine And.intro (vl 2 250 rfl rfl) (And.intro (vl 2 250 rfl rfl) ?_)
        have e5 : upd (upd (upd (upd (upd (A 1) (8 + 8 * k + 0) kind) (8 + 8 * k + 1) m) (8 + 8 * k + 2) 0) (8 + 8 * k + 5) (-1)) (8 + 8 * k + 6) 0 2 = A 1 2 := by
          rw [pk_un (by omega), pk_un (by omega), pk_un (by omega), pk_un (by omega), pk_un (by omega)]
        have e6 : upd (upd (upd (upd (upd (upd (A 1) (8 + 8 * k + 0) kind) (8 + 8 * k + 1) m) (8 + 8 * k + 2) 0) (8 + 8 * k + 5) (-1)) (8 + 8 * k + 6) 0) 2 (upd (upd (upd (upd (upd (A 1) (8 + 8 * k + 0) kind) (8 + 8 * k + 1) m) (8 + 8 * k + 2) 0) (8 + 8 * k + 5) (-1)) (8 + 8 * k + 6) 0 2 + 1) = joinD (A 1) k kind m := by
          rw [e5, hk, nI_1]
          rfl
        refine ⟨aset A 1 (joinD (A 1) k kind m), F, k + 1, rfl, ?_, ?_, by omega, ?_⟩
        · rw [← e6, ← aset_aset A 1 (upd (A 1) (8 + 8 * k + 0) kind), ← aset_aset (aset A 1 (upd (A 1) (8 + 8 * k + 0) kind)) 1 (upd (upd (A 1) (8 + 8 * k + 0) kind) (8 + 8 * k + 1) m), ← aset_aset (aset (aset A 1 (upd (A 1) (8 + 8 * k + 0) kind)) 1 (upd (upd (A 1) (8 + 8 * k + 0) kind) (8 + 8 * k + 1) m)) 1 (upd (upd (upd (A 1) (8 + 8 * k + 0) kind) (8 + 8 * k + 1) m) (8 + 8 * k + 2) 0)]
          rfl
        · show joinD (A 1) k kind m 2 = nI (k + 1)
          exact pk_us
        · refine sQ_e h (cif_t' ⟨⟨g1, g2⟩, g3, g4⟩ (cif_f' g ?_))
          rw [hK, aset_aset]
          rfl
      · have g : A 1 2 = 8 := Classical.not_not.mp g
        refine ⟨A, F, 4, rfl, rfl, by decide, ?_⟩
        exact sQ_e h (cif_t' ⟨⟨g1, g2⟩, g3, g4⟩ (cif_t' g rfl))
    · refine br_f xc_ne0 ?_
      refine ⟨A, F, 1, rfl, rfl, by decide, ?_⟩
      exact bad (fun q => g q.2)
  · refine br_t xc_eq0 ?_
    refine ⟨A, F, 1, rfl, rfl, by decide, ?_⟩
    exact bad (fun q => g q.1)
def sX10_rule : XS := fun as w post => ∃ (A : XA) (F : Nat → Int32) (s kind m : Int32) (k : Nat), as = [.ref 0, .int s, .int kind, .int m] ∧ w = LM A F ∧ A 1 2 = nI k ∧ k ≤ 8 ∧ sQ (qrule s kind m A F) post
set_option maxRecDepth 10000 in
set_option maxHeartbeats 1000000 in
theorem mX10_rule (d : Nat) (hd : 2 ≤ d) : xCT d yX10_rule cX10_rule 5 (some .int) sX10_rule := by
  obtain ⟨d, rfl⟩ : ∃ e, d = e + 1 := ⟨d - 1, by omega⟩
  refine xmet0 (tb := tX10_rule) (fl := fX10) (kc := nX10) (gs := g0) (cl := xlk [(163, true, 2, xrcv 10 (sX10_isSinger)), (65, false, 3, sX10_in), (128, true, 2, xrcv 10 (sX10_finds)), (149, true, 3, xrcv 10 (sX10_its)), (152, true, 4, xrcv 10 (sX10_becomes))]) 400 (by decide) tX10_rule_ok fX10_ok nX10_ok g0_ok (xg_cons (k_X10_163 (mX10_isSinger d (by omega))) (xg_cons (k_X10_65 (mX10_in d (by omega))) (xg_cons (k_X10_128 (mX10_finds d (by omega))) (xg_cons (k_X10_149 (mX10_its d (by omega))) (xg_cons (k_X10_152 (mX10_becomes d (by omega))) xg_nil))))) ?_
  rintro L xs as w Qp ⟨A, F, s, kind, m, k, rfl, rfl, hk, hk8, h⟩
  refine ⟨Nat.le_of_ble_eq_true rfl, ?_⟩
  have bad : ¬ (isS (A 1) s ∧ (0 ≤ kind ∧ kind ≤ 6) ∧ (0 ≤ m ∧ m ≤ 99)) → Qp (some (.int (lo 1))) (LM (er A 1) F) := fun g => sQ_e h (cif_f' g rfl)
  refine ⟨A, F, s, k, rfl, rfl, hk, hk8, fun i hi es => ?_, fun g => ?_⟩
  · subst es
    refine br_f xc_eq1 ?_
    refine ⟨kind, 0, 6, rfl, fun g1 g2 => ?_, fun g => ?_⟩
    · refine br_f xc_eq1 ?_
      refine ⟨m, 0, 99, rfl, fun g3 g4 => ?_, fun g => ?_⟩
      · refine br_t xc_ne1 ?_
        refine ⟨A, F, i, 0, rfl, rfl, by omega, ?_⟩
        refine ⟨A, F, i, 1, rfl, rfl, by omega, ?_⟩
        refine ⟨A, F, i, 0, kind, rfl, rfl, by omega, ?_⟩
        refine ⟨_, F, i, 1, m, rfl, rfl, by omega, ?_⟩
        refine sQ_e h (cif_t' ⟨isS_i hk hk8 hi, ⟨g1, g2⟩, g3, g4⟩ ?_)
        rw [cl (by omega), aset_aset]
        rfl
      · refine br_f xc_ne0 ?_
        refine ⟨A, F, 1, rfl, rfl, by decide, ?_⟩
        exact bad (fun q => g q.2.2)
    · refine br_t xc_eq0 ?_
      refine ⟨A, F, 1, rfl, rfl, by decide, ?_⟩
      exact bad (fun q => g q.2.1)
  · refine br_t xc_eq0 ?_
    refine ⟨A, F, 1, rfl, rfl, by decide, ?_⟩
    exact bad (fun q => isS_n hk hk8 g q.1)
def sX10_isOf : XS := fun as w post => ∃ (own kind : Int32), as = [.int own, .int kind] ∧ (isO own kind → post (some (.int 1)) w) ∧ (¬ isO own kind → post (some (.int 0)) w)
set_option maxRecDepth 10000 in
set_option maxHeartbeats 1000000 in
theorem mX10_isOf (d : Nat) (hd : 0 ≤ d) : xCT d yX10_isOf cX10_isOf 2 (some .boolean) sX10_isOf := by
  refine xmet0 (tb := tX10_isOf) (fl := fX10) (kc := nX10) (gs := g0) (cl := xlk []) 400 (by decide) tX10_isOf_ok fX10_ok nX10_ok g0_ok xg_nil ?_
  rintro L xs as w Qp ⟨own, kind, rfl, h1, h2⟩
  refine ⟨Nat.le_of_ble_eq_true rfl, ?_⟩
  unfold isO at h1 h2
  refine And.intro (fun g1 => ⟨rfl, h1 (Or.inl g1)⟩) (fun g1 => ?_)
  refine And.intro (fun g2 => ⟨rfl, h1 (Or.inr (Or.inl g2))⟩) (fun g2 => ?_)
  have g1 : ¬ kind = 0 := g1
  have g2 : ¬ kind = own := g2
  refine And.intro (fun g3 => ?_) (fun g3 => ?_)
  · have g3 : ¬ kind = 2 := g3
    refine And.intro (fun g4 => ?_) (fun g4 => ?_)
    · have g4 : ¬ kind = 3 := g4
      refine And.intro (fun g5 => ?_) (fun g5 => ?_)
      · have g5 : ¬ kind = 1 := g5
        exact ⟨rfl, h2 (by rintro (q | q | q | q | q) <;> first | exact g1 q | exact g2 q | exact g3 q.1 | exact g4 q.1 | exact g5 q.1)⟩
      · have g5 : kind = 1 := Classical.not_not.mp g5
        refine And.intro (fun g6 => ?_) (fun g6 => ?_)
        · have g6 : ¬ own = 6 := g6
          exact ⟨rfl, h2 (by rintro (q | q | q | q | q) <;> first | exact g1 q | exact g2 q | exact g3 q.1 | exact g4 q.1 | exact g6 q.2)⟩
        · exact ⟨rfl, h1 (Or.inr (Or.inr (Or.inr (Or.inr ⟨g5, Classical.not_not.mp g6⟩))))⟩
    · have g4 : kind = 3 := Classical.not_not.mp g4
      refine And.intro (fun g5 => ⟨rfl, h1 (Or.inr (Or.inr (Or.inr (Or.inl ⟨g4, g5⟩))))⟩) (fun g5 => ?_)
      have g5 : ¬ own = 5 := g5
      have g6 : ¬ kind = 1 := by rw [g4]; decide
      refine br_t g6 ?_
      exact ⟨rfl, h2 (by rintro (q | q | q | q | q) <;> first | exact g1 q | exact g2 q | exact g3 q.1 | exact g5 q.2 | exact g6 q.1)⟩
  · have g3 : kind = 2 := Classical.not_not.mp g3
    refine And.intro (fun g5 => ⟨rfl, h1 (Or.inr (Or.inr (Or.inl ⟨g3, g5⟩)))⟩) (fun g5 => ?_)
    have g5 : ¬ own = 4 := g5
    have g4 : ¬ kind = 3 := by rw [g3]; decide
    have g6 : ¬ kind = 1 := by rw [g3]; decide
    refine br_t g4 ?_
    refine br_t g6 ?_
    exact ⟨rfl, h2 (by rintro (q | q | q | q | q) <;> first | exact g1 q | exact g2 q | exact g5 q.2 | exact g4 q.1 | exact g6 q.1)⟩
def sX10_as : XS := fun as w post => ∃ (A : XA) (F : Nat → Int32) (s kind : Int32) (k : Nat), as = [.ref 0, .int s, .int kind] ∧ w = LM A F ∧ A 1 2 = nI k ∧ k ≤ 8 ∧ sQ (qas s kind A F) post
set_option maxRecDepth 10000 in
set_option maxHeartbeats 1000000 in
theorem mX10_as (d : Nat) (hd : 2 ≤ d) : xCT d yX10_as cX10_as 3 (some .int) sX10_as := by
  obtain ⟨d, rfl⟩ : ∃ e, d = e + 1 := ⟨d - 1, by omega⟩
  refine xmet0 (tb := tX10_as) (fl := fX10) (kc := nX10) (gs := g0) (cl := xlk [(163, true, 2, xrcv 10 (sX10_isSinger)), (65, false, 3, sX10_in), (128, true, 2, xrcv 10 (sX10_finds)), (149, true, 3, xrcv 10 (sX10_its)), (171, false, 2, sX10_isOf)]) 400 (by decide) tX10_as_ok fX10_ok nX10_ok g0_ok (xg_cons (k_X10_163 (mX10_isSinger d (by omega))) (xg_cons (k_X10_65 (mX10_in d (by omega))) (xg_cons (k_X10_128 (mX10_finds d (by omega))) (xg_cons (k_X10_149 (mX10_its d (by omega))) (xg_cons (k_X10_171 (mX10_isOf d (by omega))) xg_nil))))) ?_
  rintro L xs as w Qp ⟨A, F, s, kind, k, rfl, rfl, hk, hk8, h⟩
  refine ⟨Nat.le_of_ble_eq_true rfl, ?_⟩
  have bad : ¬ (isS (A 1) s ∧ (0 ≤ kind ∧ kind ≤ 6)) → Qp (some (.int (lo 1))) (LM (er A 1) F) := fun g => sQ_e h (cif_f' g rfl)
  refine ⟨A, F, s, k, rfl, rfl, hk, hk8, fun i hi es => ?_, fun g => ?_⟩
  · subst es
    refine br_f xc_eq1 ?_
    refine ⟨kind, 0, 6, rfl, fun g1 g2 => ?_, fun g => ?_⟩
    · refine br_t xc_ne1 ?_
      refine ⟨A, F, i, 0, rfl, rfl, by omega, ?_⟩
      refine ⟨_, kind, rfl, fun g => ?_, fun g => ?_⟩
      · refine br_f xc_eq1 ?_
        refine ⟨A, F, i, 1, rfl, rfl, by omega, ?_⟩
        refine sQ_e h (cif_t' ⟨isS_i hk hk8 hi, g1, g2⟩ ?_)
        rw [cl (by omega)]
        exact cif_t' g rfl
      · refine br_t xc_eq0 ?_
        refine ⟨A, F, 5, rfl, rfl, by decide, ?_⟩
        refine sQ_e h (cif_t' ⟨isS_i hk hk8 hi, g1, g2⟩ ?_)
        rw [cl (by omega)]
        exact cif_f' g rfl
    · refine br_f xc_ne0 ?_
      refine ⟨A, F, 1, rfl, rfl, by decide, ?_⟩
      exact bad (fun q => g q.2)
  · refine br_t xc_eq0 ?_
    refine ⟨A, F, 1, rfl, rfl, by decide, ?_⟩
    exact bad (fun q => isS_n hk hk8 g q.1)
def sX10_net : XS := fun as w post => ∃ (A : XA) (F : Nat → Int32) (s f e : Int32) (k : Nat), as = [.ref 0, .int s, .int f, .int e] ∧ w = LM A F ∧ A 1 2 = nI k ∧ k ≤ 8 ∧ sQ (qnet s f e A F) post
set_option maxRecDepth 10000 in
set_option maxHeartbeats 1000000 in
theorem mX10_net (d : Nat) (hd : 2 ≤ d) : xCT d yX10_net cX10_net 4 (some .int) sX10_net := by
  obtain ⟨d, rfl⟩ : ∃ e, d = e + 1 := ⟨d - 1, by omega⟩
  refine xmet0 (tb := tX10_net) (fl := fX10) (kc := nX10) (gs := g0) (cl := xlk [(163, true, 2, xrcv 10 (sX10_isSinger)), (128, true, 2, xrcv 10 (sX10_finds)), (152, true, 4, xrcv 10 (sX10_becomes))]) 400 (by decide) tX10_net_ok fX10_ok nX10_ok g0_ok (xg_cons (k_X10_163 (mX10_isSinger d (by omega))) (xg_cons (k_X10_128 (mX10_finds d (by omega))) (xg_cons (k_X10_152 (mX10_becomes d (by omega))) xg_nil))) ?_
  rintro L xs as w Qp ⟨A, F, s, f, e, k, rfl, rfl, hk, hk8, h⟩
  refine ⟨Nat.le_of_ble_eq_true rfl, ?_⟩
  have bad : ¬ (isS (A 1) s ∧ isS (A 1) f ∧ isS (A 1) e) → Qp (some (.int (lo 1))) (LM (er A 1) F) := fun g => sQ_e h (cif_f' g rfl)
  refine ⟨A, F, s, k, rfl, rfl, hk, hk8, fun i hi es => ?_, fun g => ?_⟩
  · subst es
    refine br_f xc_eq1 ?_
    refine ⟨A, F, f, k, rfl, rfl, hk, hk8, fun i2 hi2 ef => ?_, fun g => ?_⟩
    · refine br_f xc_eq1 ?_
      refine ⟨A, F, e, k, rfl, rfl, hk, hk8, fun i3 hi3 ee => ?_, fun g => ?_⟩
      · refine br_t xc_ne1 ?_
        refine ⟨A, F, i, 3, f, rfl, rfl, by omega, ?_⟩
        refine ⟨_, F, i, 4, e, rfl, rfl, by omega, ?_⟩
        refine ⟨_, F, i, 6, 1, rfl, rfl, by omega, ?_⟩
        refine sQ_e h (cif_t' ⟨isS_i hk hk8 hi, by rw [ef]; exact isS_i hk hk8 hi2, by rw [ee]; exact isS_i hk hk8 hi3⟩ ?_)
        rw [cl (by omega), aset_aset, aset_aset]
        rfl
      · refine br_f xc_ne0 ?_
        refine ⟨A, F, 1, rfl, rfl, by decide, ?_⟩
        exact bad (fun q => isS_n hk hk8 g q.2.2)
    · refine br_t xc_eq0 ?_
      refine ⟨A, F, 1, rfl, rfl, by decide, ?_⟩
      exact bad (fun q => isS_n hk hk8 g q.2.1)
  · refine br_t xc_eq0 ?_
    refine ⟨A, F, 1, rfl, rfl, by decide, ?_⟩
    exact bad (fun q => isS_n hk hk8 g q.1)
def sX10_ring : XS := fun as w post => ∃ (A : XA) (F : Nat → Int32) (s : Int32) (k : Nat), as = [.ref 0, .int s] ∧ w = LM A F ∧ A 1 2 = nI k ∧ k ≤ 8 ∧ sQ (qring s A F) post
set_option maxRecDepth 10000 in
set_option maxHeartbeats 1000000 in
theorem mX10_ring (d : Nat) (hd : 2 ≤ d) : xCT d yX10_ring cX10_ring 3 (some .int) sX10_ring := by
  obtain ⟨d, rfl⟩ : ∃ e, d = e + 1 := ⟨d - 1, by omega⟩
  refine xmet0 (tb := tX10_ring) (fl := fX10) (kc := nX10) (gs := g0) (cl := xlk [(163, true, 2, xrcv 10 (sX10_isSinger)), (128, true, 2, xrcv 10 (sX10_finds)), (149, true, 3, xrcv 10 (sX10_its)), (152, true, 4, xrcv 10 (sX10_becomes)), (160, true, 1, xrcv 10 (sX10_hearRing))]) 400 (by decide) tX10_ring_ok fX10_ok nX10_ok g0_ok (xg_cons (k_X10_163 (mX10_isSinger d (by omega))) (xg_cons (k_X10_128 (mX10_finds d (by omega))) (xg_cons (k_X10_149 (mX10_its d (by omega))) (xg_cons (k_X10_152 (mX10_becomes d (by omega))) (xg_cons (k_X10_160 (mX10_hearRing d (by omega))) xg_nil))))) ?_
  rintro L xs as w Qp ⟨A, F, s, k, rfl, rfl, hk, hk8, h⟩
  have hK : (A 1 2).toNatClampNeg = k := by rw [hk]; exact nI_clamp (by omega)
  refine ⟨Nat.le_of_ble_eq_true rfl, ?_⟩
  refine ⟨A, F, s, k, rfl, rfl, hk, hk8, fun i hi es => ?_, fun g => ?_⟩
  · subst es
    refine br_t xc_ne1 ?_
    refine ⟨A, F, i, 6, rfl, rfl, by omega, ?_⟩
    refine ⟨A, F, i, 6, 0, rfl, rfl, by omega, ?_⟩
    refine ⟨_, F, k, rfl, rfl, ?_, hk8, ?_⟩
    · show upd (A 1) (8 + 8 * i + 6) 0 2 = nI k
      rw [pk_un (by omega)]
      exact hk
    · refine sQ_e h (cif_t' (isS_i hk hk8 hi) ?_)
      rw [cl (by omega), hK, aset_aset]
      rfl
  · refine br_f xc_ne0 ?_
    refine ⟨A, F, 1, rfl, rfl, by decide, ?_⟩
    exact sQ_e h (cif_f' (isS_n hk hk8 g) rfl)
def sX10_sing : XS := fun as w post => ∃ (A : XA) (F : Nat → Int32) (s what v : Int32) (k : Nat), as = [.ref 0, .int s, .int what, .int v] ∧ w = LM A F ∧ A 1 2 = nI k ∧ k ≤ 8 ∧ sQ (qsing s what v A F) post
set_option maxRecDepth 10000 in
set_option maxHeartbeats 1000000 in
theorem mX10_sing (d : Nat) (hd : 2 ≤ d) : xCT d yX10_sing cX10_sing 6 (some .int) sX10_sing := by
  obtain ⟨d, rfl⟩ : ∃ e, d = e + 1 := ⟨d - 1, by omega⟩
  refine xmet0 (tb := tX10_sing) (fl := fX10) (kc := nX10) (gs := g0) (cl := xlk [(163, true, 2, xrcv 10 (sX10_isSinger)), (65, false, 3, sX10_in), (128, true, 2, xrcv 10 (sX10_finds)), (149, true, 3, xrcv 10 (sX10_its)), (152, true, 4, xrcv 10 (sX10_becomes))]) 400 (by decide) tX10_sing_ok fX10_ok nX10_ok g0_ok (xg_cons (k_X10_163 (mX10_isSinger d (by omega))) (xg_cons (k_X10_65 (mX10_in d (by omega))) (xg_cons (k_X10_128 (mX10_finds d (by omega))) (xg_cons (k_X10_149 (mX10_its d (by omega))) (xg_cons (k_X10_152 (mX10_becomes d (by omega))) xg_nil))))) ?_
  rintro L xs as w Qp ⟨A, F, s, what, v, k, rfl, rfl, hk, hk8, h⟩
  refine ⟨Nat.le_of_ble_eq_true rfl, ?_⟩
  have bad : ¬ (isS (A 1) s ∧ (0 ≤ what ∧ what ≤ 1) ∧ (-what ≤ v ∧ v ≤ A 1 1 - 1)) → Qp (some (.int (lo 1))) (LM (er A 1) F) := fun g => sQ_e h (cif_f' g rfl)
  refine ⟨A, F, s, k, rfl, rfl, hk, hk8, fun i hi es => ?_, fun g => ?_⟩
  · subst es
    refine br_f xc_eq1 ?_
    refine ⟨what, 0, 1, rfl, fun g1 g2 => ?_, fun g => ?_⟩
    · refine br_f xc_eq1 ?_
      refine And.intro (vl 1 250 rfl rfl) ?_
      refine ⟨v, -what, A 1 1 - 1, rfl, fun g3 g4 => ?_, fun g => ?_⟩
      · refine br_t xc_ne1 ?_
        refine And.intro (fun g => ?_) (fun g => ?_)
        · have g : ¬ what = 0 := g
          refine ⟨A, F, i, 5, rfl, rfl, by omega, ?_⟩
          refine ⟨A, F, i, 5, v, rfl, rfl, by omega, ?_⟩
          refine sQ_e h (cif_t' ⟨isS_i hk hk8 hi, ⟨g1, g2⟩, g3, g4⟩ (cif_f' g ?_))
          rw [cl (by omega)]
        · have g : what = 0 := Classical.not_not.mp g
          refine ⟨A, F, i, 2, rfl, rfl, by omega, ?_⟩
          refine ⟨A, F, i, 2, v, rfl, rfl, by omega, ?_⟩
          refine sQ_e h (cif_t' ⟨isS_i hk hk8 hi, ⟨g1, g2⟩, g3, g4⟩ (cif_t' g ?_))
          rw [cl (by omega)]
      · refine br_f xc_ne0 ?_
        refine ⟨A, F, 1, rfl, rfl, by decide, ?_⟩
        exact bad (fun q => g q.2.2)
    · refine br_t xc_eq0 ?_
      refine ⟨A, F, 1, rfl, rfl, by decide, ?_⟩
      exact bad (fun q => g q.2.1)
  · refine br_t xc_eq0 ?_
    refine ⟨A, F, 1, rfl, rfl, by decide, ?_⟩
    exact bad (fun q => isS_n hk hk8 g q.1)
