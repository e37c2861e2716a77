/-! ===== the class's calls: worths, check, coughs ===== -/
def sX9_worths : XS := fun as w post => ∃ (s t u : Bool) (A : XA) (F : Nat → Int32) (mA : XA) (mF : Nat → Int32) (c n k : Nat) (x : Int32), as = [.ref 0, .int x] ∧ w = CW s t u A F ∧ CI mA mF n k ∧ Rel mA mF A F ∧ Aux (mA 1) A F c ∧ c < 2 ^ 28 ∧ cQ (qworths x mA mF) c post
set_option maxRecDepth 10000 in
set_option maxHeartbeats 1000000 in
theorem mX9_worths (d : Nat) (hd : 5 ≤ d) : xCT d yX9_worths cX9_worths 4 (some .int) sX9_worths := by
  obtain ⟨d, rfl⟩ : ∃ e, d = e + 1 := ⟨d - 1, by omega⟩
  refine xmet (tb := tX9_worths) (fl := fX9) (kc := nX9) (gs := g0) (cl := xlk [(82, false, 3, sX9_within), (86, true, 2, xrcv 9 (sX9_fail)), (209, true, 2, xrcv 5 (sX5_startFrom_Wr)), (213, true, 4, xrcv 5 (sX5_goOn_Wr)), (196, true, 3, xrcv 1 (sX1_worthOf_W))]) (by decide) tX9_worths_ok fX9_ok nX9_ok g0_ok (xg_cons (k_X9_82 (mX9_within d (by omega))) (xg_cons (k_X9_86 (mX9_fail d (by omega))) (xg_cons (k_X9_209 (mX5_startFrom_Wr d (by omega))) (xg_cons (k_X9_213 (mX5_goOn_Wr d (by omega))) (xg_cons (k_X9_196 (mX1_worthOf_W d (by omega))) xg_nil))))) ?_
  rintro L xs as w Qp ⟨s, t, u, A, F, mA, mF, c, n, k, x, rfl, rfl, hC, hR, hX, hc, h⟩
  obtain ⟨hn, hn2, hn12, hk, hk8, hF11, hF12, hA, hKV, h54, h58⟩ := ctx hC hR hX
  refine ⟨Nat.le_of_ble_eq_true rfl, 400, xlk [(51, 4)], fun m pc ls st w => pc = 51 ∧ st = [] ∧ ∃ l i z s' A', l ≤ 500 ∧ x = nI l ∧ (0 ≤ x ∧ x ≤ 500) ∧ i ≤ k ∧ m = k - i ∧ z = wsum (mA 1) (itr (mA 1) k l (nw (mA 1))) i ∧ ls = [(0, .ref 0), (1, .int x), (2, .int z), (3, .int (nI i))] ∧ w = CW s' t u A' F ∧ Rel mA mF A' F ∧ Aux (mA 1) A' F c ∧ (∀ j, j < k → A' (rp s') j = itr (mA 1) k l (nw (mA 1)) j), ?_, ?_⟩
  · refine ⟨x, 0, 500, rfl, fun g1 g2 => ?_, fun g => ?_⟩
    · refine br_t xc_ne1 ?_
      obtain ⟨l, hl, el⟩ := rg (c := 500) (by omega) g1 g2
      refine ⟨s, t, u, A, F, rfl, rfl, fun A1 e1 => ?_⟩
      obtain ⟨hS1, hC1, hK1, hr1, hb1, hR1, hX1⟩ := run0 hC hR hX (rpS s).1 (rpS s).2.1 (rpS s).2.2 e1
      refine ⟨s, t, u, A1, F, mA 1, n, k, l, by rw [el], rfl, by omega, hC.1, hC.2.1, hC1, hK1, hb1, fun s' A2 hS2 hK2 hr2 => ?_⟩
      obtain ⟨hR2, hX2⟩ := run1 hC hR1 hX1 hS2 (by decide) rfl hK2
      exact ⟨k, rfl, rfl, l, 0, 0, s', A2, hl, el, ⟨g1, g2⟩, Nat.zero_le _, rfl, rfl, rfl, rfl, hR2, hX2, fun j hj => by rw [hr2 j hj, itr_cg hC.1 hr1 l j hj]⟩
    · refine br_f xc_ne0 ?_
      refine ⟨s, t, u, A, F, 1, rfl, rfl, by decide, by decide, ?_⟩
      exact cQ_e h (cif_f' g rfl) hR hX
  · rintro m pc m9 ls st w hc9 ⟨rfl, rfl, l, i, z, s', A', hl, el, g1, hi, rfl, hz, rfl, rfl, hR', hX', hr⟩
    refine And.intro (fun g => ?_) (fun g => ?_)
    · have := ge_n hF12 (by omega) (by omega) g
      refine cQ_s h (cif_t' g1 ?_) hR' hX'
      rw [hz, el, hk, cl (by omega), cl (by omega), show i = k by omega]
    · have hlt := nge_n hF12 (by omega) (by omega) g
      have i0 : vp_in (nI i) 8 := vp_in_nI (by omega) (by decide)
      have er : A' (rp s') (nI i).toNatClampNeg = itr (mA 1) k l (nw (mA 1)) i := by rw [cl (by omega)]; exact hr i hlt
      obtain ⟨_, _, _, _, _, _, _, _, hKV', _, _⟩ := ctx hC hR' hX'
      cases s'
      · refine And.intro i0 ?_
        refine ⟨false, t, u, A', F, mA 1, _, _, rfl, rfl, hR'.1, hC.2.2.1, fun A2 v hv hS2 => ?_⟩
        obtain ⟨hR2, hX2⟩ := run1 hC hR' hX' hS2 (by decide) rfl (KV_cg hKV' (fun t ht => hS2 (39 + t) (row8 (by omega) (by decide))))
        refine ⟨k - (i + 1), by omega, rfl, rfl, l, i + 1, z + v, false, A2, hl, el, g1, hlt, rfl, ?_, by rw [← nI_1 i]; rfl, rfl, hR2, hX2, fun j hj => ?_⟩
        · have e2 : A' 48 (nI i).toNatClampNeg = itr (mA 1) k l (nw (mA 1)) i := er
          rw [hv, e2, hz]
          rfl
        · rw [hS2 (rp false) rfl]
          exact hr j hj
      · refine And.intro i0 ?_
        refine ⟨true, t, u, A', F, mA 1, _, _, rfl, rfl, hR'.1, hC.2.2.1, fun A2 v hv hS2 => ?_⟩
        obtain ⟨hR2, hX2⟩ := run1 hC hR' hX' hS2 (by decide) rfl (KV_cg hKV' (fun t ht => hS2 (39 + t) (row8 (by omega) (by decide))))
        refine ⟨k - (i + 1), by omega, rfl, rfl, l, i + 1, z + v, true, A2, hl, el, g1, hlt, rfl, ?_, by rw [← nI_1 i]; rfl, rfl, hR2, hX2, fun j hj => ?_⟩
        · have e2 : A' 49 (nI i).toNatClampNeg = itr (mA 1) k l (nw (mA 1)) i := er
          rw [hv, e2, hz]
          rfl
        · rw [hS2 (rp true) rfl]
          exact hr j hj
theorem cgh_bd {D : Nat → Int32} {n k : Nat} (hI : DI D n k) (i j l : Nat) (hl : l < k) (hj : j < 2 ^ 30) : bd (cgh D i (nI j) l) n := by
  obtain ⟨hn, hn2, hn12, hk, hk8, hSG, _⟩ := hI
  unfold cgh
  by_cases q : l = i
  · rw [q, pk_us]
    rw [q] at hl
    obtain ⟨v, hv, ev⟩ := (hSG i hl).2.2.1
    have ev : nw D i = nI v := ev
    unfold rm
    rw [ev, hn, nI_add, pk_rem (by omega) (by omega) (by omega)]
    exact ⟨_, Nat.mod_lt _ (by omega), rfl⟩
  · rw [pk_un q]
    exact (hSG l hl).2.2.1
def sX9_isCough : XS := fun as w post => ∃ (s t u : Bool) (A : XA) (F : Nat → Int32) (k : Nat) (x d : Int32), as = [.ref 0, .int x, .int d] ∧ w = CW s t u A F ∧ F 12 = nI k ∧ k ≤ 8 ∧ (∀ i j, i < k → x = nI i → 1 ≤ j → j ≤ 11 → d = nI j → (1 ≤ d ∧ d ≤ 11) → post (some (.int 1)) (CW s t u A F)) ∧ (((∀ i, i < k → x ≠ nI i) ∨ ¬ (1 ≤ d ∧ d ≤ 11)) → post (some (.int 0)) (CW s t u A F))
set_option maxRecDepth 10000 in
set_option maxHeartbeats 1000000 in
theorem mX9_isCough (d : Nat) (hd : 1 ≤ d) : xCT d yX9_isCough cX9_isCough 3 (some .boolean) sX9_isCough := by
  obtain ⟨d, rfl⟩ : ∃ e, d = e + 1 := ⟨d - 1, by omega⟩
  refine xmet0 (tb := tX9_isCough) (fl := fX9) (kc := nX9) (gs := g0) (cl := xlk [(117, true, 2, xrcv 1 (sX1_has_W)), (82, false, 3, sX9_within)]) 400 (by decide) tX9_isCough_ok fX9_ok nX9_ok g0_ok (xg_cons (k_X9_117 (mX1_has_W d (by omega))) (xg_cons (k_X9_82 (mX9_within d (by omega))) xg_nil)) ?_
  rintro L xs as w Qp ⟨s, t, u, A, F, k, x, d, rfl, rfl, hF12, hk8, h1, h2⟩
  refine ⟨Nat.le_of_ble_eq_true rfl, ?_⟩
  refine ⟨s, t, u, A, F, x, k, rfl, rfl, hF12, hk8, fun i hi es => ?_, fun g => ?_⟩
  · refine br_f xc_eq1 ?_
    refine ⟨d, 1, 11, rfl, fun g1 g2 => ?_, fun g => ?_⟩
    · refine br_f xc_eq1 ?_
      obtain ⟨j, hj, ej⟩ := rg (c := 11) (by omega) (show (0 : Int32) ≤ d from by
        rw [fa_le] at g1 ⊢
        exact Int.le_trans (by decide) g1) g2
      have hj1 : 1 ≤ j := by
        rw [ej, show (1 : Int32) = nI 1 from rfl, fa_le, nI_toInt (by omega), nI_toInt (by omega)] at g1
        omega
      exact ⟨rfl, h1 i j hi es hj1 hj ej ⟨g1, g2⟩⟩
    · refine br_t xc_eq0 ?_
      exact ⟨rfl, h2 (Or.inr g)⟩
  · refine br_t xc_eq0 ?_
    exact ⟨rfl, h2 (Or.inl g)⟩
theorem crd_d {n v j : Nat} (hn2 : 2 ≤ n) (hn12 : n ≤ 12) (hv : v < n) (hj : j ≤ 11) : crd (nI n) ((nI v).toInt64 + (nI j).toInt64) = rm (nI v + nI j) (nI n) := by
  rw [(crd_val (by omega) (by omega) _).1]
  unfold rm
  rw [nI_add, pk_rem (by omega) (by omega) (by omega)]
  congr 1
  have e : ((nI v).toInt64 + (nI j).toInt64).toInt = (v : Int) + (j : Int) := by
    rw [Int64.toInt_add, Int32.toInt_toInt64, Int32.toInt_toInt64, nI_toInt (by omega), nI_toInt (by omega)]
    exact Int.bmod_eq_of_le (by omega) (by omega)
  have e2 : ((v : Int) + (j : Int)) % (n : Int) = (((v + j) % n : Nat) : Int) := (Int.natCast_emod (v + j) n).symm
  rw [e, e2, Int.toNat_natCast]
def sX9_startCough : XS := fun as w post => ∃ (s t u : Bool) (A : XA) (F : Nat → Int32) (mA : XA) (mF : Nat → Int32) (c n k i j : Nat), as = [.ref 0, .int (nI i), .int (nI j)] ∧ w = CW s t u A F ∧ CI mA mF n k ∧ Rel mA mF A F ∧ Aux (mA 1) A F c ∧ i < k ∧ j ≤ 11 ∧ ∀ A', Rel mA mF A' F → Aux (mA 1) A' F c → (∀ l, l < k → A' (rp s) l = nw (mA 1) l) → (∀ l, l < k → A' (rq t) l = cgh (mA 1) i (nI j) l) → post none (CW s t u A' F)
theorem cwset51 {s u : Bool} {A : XA} {F f f' : Nat → Int32} (h : f = f') : List.set (CW s false u A F) 51 (.inl (0, 8, .inl f)) = CW s false u (aset A 51 f') F := by
  subst h
  rfl
theorem cwset52 {s u : Bool} {A : XA} {F f f' : Nat → Int32} (h : f = f') : List.set (CW s true u A F) 52 (.inl (0, 8, .inl f)) = CW s true u (aset A 52 f') F := by
  subst h
  rfl
set_option maxRecDepth 10000 in
set_option maxHeartbeats 1000000 in
theorem mX9_startCough (d : Nat) (hd : 2 ≤ d) : xCT d yX9_startCough cX9_startCough 3 none sX9_startCough := by
  obtain ⟨d, rfl⟩ : ∃ e, d = e + 1 := ⟨d - 1, by omega⟩
  refine xmet0 (tb := tX9_startCough) (fl := fX9) (kc := nX9) (gs := g0) (cl := xlk [(209, true, 2, xrcv 5 (xor2 (sX5_startFrom_Wr) (sX5_startFrom_Wc))), (348, true, 2, xrcv 1 (sX1_countedRound_W))]) 400 (by decide) tX9_startCough_ok fX9_ok nX9_ok g0_ok (xg_cons (k_X9_209 (xCT_or (mX5_startFrom_Wr d (by omega)) (mX5_startFrom_Wc d (by omega)))) (xg_cons (k_X9_348 (mX1_countedRound_W d (by omega))) xg_nil)) ?_
  rintro L xs as w Qp ⟨s, t, u, A, F, mA, mF, c, n, k, i, j, rfl, rfl, hC, hR, hX, hi, hj, h⟩
  obtain ⟨hn, hn2, hn12, hk, hk8, hF11, hF12, hA, hKV, h54, h58⟩ := ctx hC hR hX
  refine ⟨Nat.le_of_ble_eq_true rfl, ?_⟩
  refine Or.inl ⟨s, t, u, A, F, rfl, rfl, fun A1 e1 => ?_⟩
  obtain ⟨hS1, hC1, hK1, hr1, hb1, hR1, hX1⟩ := run0 hC hR hX (rpS s).1 (rpS s).2.1 (rpS s).2.2 e1
  refine Or.inr ⟨s, t, u, A1, F, rfl, rfl, fun A2 e2 => ?_⟩
  obtain ⟨hS2, hC2, hK2, hr2, hb2, hR2, hX2⟩ := run0 hC hR1 hX1 (rqS t).1 (rqS t).2.1 (rqS t).2.2 e2
  have i0 : vp_in (nI i) 8 := vp_in_nI (by omega) (by decide)
  have ei : (nI i).toNatClampNeg = i := cl (by omega)
  obtain ⟨_, _, _, _, _, _, _, hA2, _, _, _⟩ := ctx hC hR2 hX2
  obtain ⟨v, hv, ev⟩ := (hC.1.2.2.2.2.2.1 i hi).2.2.1
  have hrs : ∀ l, l < k → A2 (rp s) l = nw (mA 1) l := fun l hl => by
    rw [e2, asN (by cases s <;> cases t <;> decide)]
    exact hr1 l hl
  have e4 : A2 4 (nI i).toNatClampNeg = nI v := by rw [ei, (hA2 i hi).2.2.1]; exact ev
  have enw : nw (mA 1) i = nI v := ev
  cases t
  · refine And.intro i0 ?_
    refine ⟨s, false, u, A2, F, (A2 4 (nI i).toNatClampNeg).toInt64 + (nI j).toInt64, n, rfl, rfl, hF11, hn2, hn12, fun z hz => ?_⟩
    refine And.intro i0 ?_
    have ez : z = rm (nw (mA 1) i + nI j) (mA 1 1) := by rw [hz, e4, crd_d hn2 hn12 hv hj, enw, hn]
    have eu : upd (A2 (rq false)) (nI i).toNatClampNeg z = upd (A2 (rq false)) i z := by rw [ei]
    obtain ⟨hR3, hX3⟩ := run1 (A1 := aset A2 (rq false) (upd (A2 (rq false)) i z)) hC hR2 hX2 (sm_aset (l := [51, 52]) rfl) (by decide) rfl (KV_cg hK2 (fun t ht => asN (by show 39 + t ≠ rq false; unfold rq; show 39 + t ≠ 51; omega)))
    have h9 := h (aset A2 (rq false) (upd (A2 (rq false)) i z)) hR3 hX3 (fun l hl => by rw [asN (by cases s <;> decide)]; exact hrs l hl) (fun l hl => by
      rw [aset_s]
      show _ = upd (nw (mA 1)) i (rm (nw (mA 1) i + nI j) (mA 1 1)) l
      rw [ez]
      exact upd_cg hr2 l hl)
    have h9 : Qp none (CW s false u (aset A2 51 (upd (A2 51) i z)) F) := h9
    rw [← cwset51 (show upd (A2 51) (nI i).toNatClampNeg z = upd (A2 51) i z from eu)] at h9
    exact h9
  · refine And.intro i0 ?_
    refine ⟨s, true, u, A2, F, (A2 4 (nI i).toNatClampNeg).toInt64 + (nI j).toInt64, n, rfl, rfl, hF11, hn2, hn12, fun z hz => ?_⟩
    refine And.intro i0 ?_
    have ez : z = rm (nw (mA 1) i + nI j) (mA 1 1) := by rw [hz, e4, crd_d hn2 hn12 hv hj, enw, hn]
    have eu : upd (A2 (rq true)) (nI i).toNatClampNeg z = upd (A2 (rq true)) i z := by rw [ei]
    obtain ⟨hR3, hX3⟩ := run1 (A1 := aset A2 (rq true) (upd (A2 (rq true)) i z)) hC hR2 hX2 (sm_aset (l := [51, 52]) rfl) (by decide) rfl (KV_cg hK2 (fun t ht => asN (by show 39 + t ≠ rq true; unfold rq; show 39 + t ≠ 52; omega)))
    have h9 := h (aset A2 (rq true) (upd (A2 (rq true)) i z)) hR3 hX3 (fun l hl => by rw [asN (by cases s <;> decide)]; exact hrs l hl) (fun l hl => by
      rw [aset_s]
      show _ = upd (nw (mA 1)) i (rm (nw (mA 1) i + nI j) (mA 1 1)) l
      rw [ez]
      exact upd_cg hr2 l hl)
    have h9 : Qp none (CW s true u (aset A2 52 (upd (A2 52) i z)) F) := h9
    rw [← cwset52 (show upd (A2 52) (nI i).toNatClampNeg z = upd (A2 52) i z from eu)] at h9
    exact h9
def sX9_heard : XS := fun as w post => ∃ (s t u : Bool) (A : XA) (F : Nat → Int32) (mA : XA) (mF : Nat → Int32) (c n k : Nat) (x d y : Int32), as = [.ref 0, .int x, .int d, .int y] ∧ w = CW s t u A F ∧ CI mA mF n k ∧ Rel mA mF A F ∧ Aux (mA 1) A F c ∧ c < 2 ^ 28 ∧ cQ (qheard x d y mA mF) c post
set_option maxRecDepth 10000 in
set_option maxHeartbeats 1000000 in
theorem mX9_heard (d : Nat) (hd : 5 ≤ d) : xCT d yX9_heard cX9_heard 4 (some .int) sX9_heard := by
  obtain ⟨d, rfl⟩ : ∃ e, d = e + 1 := ⟨d - 1, by omega⟩
  refine xmet0 (tb := tX9_heard) (fl := fX9) (kc := nX9) (gs := g0) (cl := xlk [(271, true, 3, xrcv 9 (sX9_isCough)), (82, false, 3, sX9_within), (86, true, 2, xrcv 9 (sX9_fail)), (274, true, 3, xrcv 9 (sX9_startCough)), (213, true, 4, xrcv 5 (xor2 (sX5_goOn_Wr) (sX5_goOn_Wc))), (278, true, 3, xrcv 5 (sX5_unlike_W))]) 400 (by decide) tX9_heard_ok fX9_ok nX9_ok g0_ok (xg_cons (k_X9_271 (mX9_isCough d (by omega))) (xg_cons (k_X9_82 (mX9_within d (by omega))) (xg_cons (k_X9_86 (mX9_fail d (by omega))) (xg_cons (k_X9_274 (mX9_startCough d (by omega))) (xg_cons (k_X9_213 (xCT_or (mX5_goOn_Wr d (by omega)) (mX5_goOn_Wc d (by omega)))) (xg_cons (k_X9_278 (mX5_unlike_W d (by omega))) xg_nil)))))) ?_
  rintro L xs as w Qp ⟨s, t, u, A, F, mA, mF, c, n, k, x, d9, y, rfl, rfl, hC, hR, hX, hc, h⟩
  obtain ⟨hn, hn2, hn12, hk, hk8, hF11, hF12, hA, hKV, h54, h58⟩ := ctx hC hR hX
  obtain ⟨eN, eK⟩ := DI_nk hC.1
  unfold qheard at h
  rw [eK] at h
  refine ⟨Nat.le_of_ble_eq_true rfl, ?_⟩
  refine ⟨s, t, u, A, F, k, x, d9, rfl, rfl, hF12, hk8, fun i j hi es hj1 hj ej gd => ?_, fun g => ?_⟩
  · subst es ej
    refine br_f xc_eq1 ?_
    refine ⟨y, 0, 200, rfl, fun g1 g2 => ?_, fun g => ?_⟩
    · refine br_t xc_ne1 ?_
      obtain ⟨m, hm, em⟩ := rg (c := 200) (by omega) g1 g2
      subst em
      refine ⟨s, t, u, A, F, mA, mF, c, n, k, i, j, rfl, rfl, hC, hR, hX, hi, hj, fun A1 hR1 hX1 hrp hrq => ?_⟩
      obtain ⟨_, _, _, _, _, _, _, _, hKV1, _, _⟩ := ctx hC hR1 hX1
      refine Or.inl ⟨s, t, u, A1, F, mA 1, n, k, m, rfl, rfl, by omega, hC.1, hC.2.1, hR1.1, hKV1, fun l hl => by rw [hrp l hl]; exact (hC.1.2.2.2.2.2.1 l hl).2.2.1, fun s2 A2 hS2 hK2 hr2 => ?_⟩
      obtain ⟨hR2, hX2⟩ := run1 hC hR1 hX1 hS2 (by decide) rfl hK2
      have erq : A2 (rq t) = A1 (rq t) := hS2 (rq t) (by cases t <;> rfl)
      refine Or.inr ⟨s2, t, u, A2, F, mA 1, n, k, m, rfl, rfl, by omega, hC.1, hC.2.1, hR2.1, hK2, fun l hl => ?_, fun t2 A3 hS3 hK3 hr3 => ?_⟩
      · rw [erq, hrq l hl]
        exact cgh_bd hC.1 i j l hl (by omega)
      · obtain ⟨hR3, hX3⟩ := run1 hC hR2 hX2 hS3 (by decide) rfl hK3
        have erp : A3 (rp s2) = A2 (rp s2) := hS3 (rp s2) (by cases s2 <;> rfl)
        refine ⟨s2, t2, u, A3, F, k, by rw [← hF12], rfl, hk8, fun v hv => ?_⟩
        refine cQ_s h (cif_t' ⟨isS_i hk hk8 hi, gd, g1, g2⟩ ?_) hR3 hX3
        rw [hv, cl (by omega), cl (by omega)]
        refine congrArg (fun z => (z, mA, mF)) (oth_cg k (fun l hl => ?_) (fun l hl => ?_))
        · rw [erp, hr2 l hl, itr_cg hC.1 hrp m l hl]
        · rw [hr3 l hl, itr_cg hC.1 (r := A2 (rq t)) (r' := cgh (mA 1) i (nI j)) (fun l hl => by rw [erq]; exact hrq l hl) m l hl]
    · refine br_f xc_ne0 ?_
      refine ⟨s, t, u, A, F, 1, rfl, rfl, by decide, by decide, ?_⟩
      exact cQ_e h (cif_f' (fun q => g q.2.2) rfl) hR hX
  · refine br_t xc_eq0 ?_
    refine ⟨s, t, u, A, F, 1, rfl, rfl, by decide, by decide, ?_⟩
    exact cQ_e h (cif_f' (fun q => g.elim (fun g => isS_n hk hk8 g q.1) (fun g => g q.2.1)) rfl) hR hX
def sX9_gone : XS := fun as w post => ∃ (s t u : Bool) (A : XA) (F : Nat → Int32) (mA : XA) (mF : Nat → Int32) (c n k : Nat) (x d : Int32), as = [.ref 0, .int x, .int d] ∧ w = CW s t u A F ∧ CI mA mF n k ∧ Rel mA mF A F ∧ Aux (mA 1) A F c ∧ c < 2 ^ 28 ∧ cQ (qgone x d mA mF) c post
set_option maxRecDepth 10000 in
set_option maxHeartbeats 1000000 in
theorem mX9_gone (d : Nat) (hd : 5 ≤ d) : xCT d yX9_gone cX9_gone 4 (some .int) sX9_gone := by
  obtain ⟨d, rfl⟩ : ∃ e, d = e + 1 := ⟨d - 1, by omega⟩
  refine xmet (tb := tX9_gone) (fl := fX9) (kc := nX9) (gs := g0) (cl := xlk [(271, true, 3, xrcv 9 (sX9_isCough)), (86, true, 2, xrcv 9 (sX9_fail)), (274, true, 3, xrcv 9 (sX9_startCough)), (213, true, 4, xrcv 5 (xor2 (sX5_goOn_Wr) (sX5_goOn_Wc))), (278, true, 3, xrcv 5 (sX5_unlike_W))]) (by decide) tX9_gone_ok fX9_ok nX9_ok g0_ok (xg_cons (k_X9_271 (mX9_isCough d (by omega))) (xg_cons (k_X9_86 (mX9_fail d (by omega))) (xg_cons (k_X9_274 (mX9_startCough d (by omega))) (xg_cons (k_X9_213 (xCT_or (mX5_goOn_Wr d (by omega)) (mX5_goOn_Wc d (by omega)))) (xg_cons (k_X9_278 (mX5_unlike_W d (by omega))) xg_nil))))) ?_
  rintro L xs as w Qp ⟨s, t, u, A, F, mA, mF, c, n, k, x, d9, rfl, rfl, hC, hR, hX, hc, h⟩
  obtain ⟨hn, hn2, hn12, hk, hk8, hF11, hF12, hA, hKV, h54, h58⟩ := ctx hC hR hX
  obtain ⟨eN, eK⟩ := DI_nk hC.1
  refine ⟨Nat.le_of_ble_eq_true rfl, 400, xlk [(23, 4)], fun m pc ls st w => pc = 23 ∧ st = [] ∧ ∃ i j l s' t' A', i < k ∧ x = nI i ∧ j ≤ 11 ∧ d9 = nI j ∧ (1 ≤ d9 ∧ d9 ≤ 11) ∧ l ≤ 201 ∧ m = 201 - l ∧ ls = [(0, .ref 0), (1, .int x), (2, .int d9), (3, .int (nI l))] ∧ w = CW s' t' u A' F ∧ Rel mA mF A' F ∧ Aux (mA 1) A' F c ∧ (∀ q, q < k → A' (rp s') q = itr (mA 1) k l (nw (mA 1)) q) ∧ (∀ q, q < k → A' (rq t') q = itr (mA 1) k l (cgh (mA 1) i (nI j)) q) ∧ (∀ q, q < k → bd (A' (rp s') q) n) ∧ (∀ q, q < k → bd (A' (rq t') q) n) ∧ lead (fun m => ¬ otm mA i (nI j) m = 0) l = l, ?_, ?_⟩
  · refine ⟨s, t, u, A, F, k, x, d9, rfl, rfl, hF12, hk8, fun i j hi es hj1 hj ej gd => ?_, fun g => ?_⟩
    · refine br_t xc_ne1 ?_
      refine ⟨s, t, u, A, F, mA, mF, c, n, k, i, j, by rw [es, ej], rfl, hC, hR, hX, hi, hj, fun A1 hR1 hX1 hrp hrq => ?_⟩
      exact ⟨201, rfl, rfl, i, j, 0, s, t, A1, hi, es, hj, ej, gd, by omega, rfl, rfl, rfl, hR1, hX1, hrp, hrq, fun l hl => by rw [hrp l hl]; exact (hC.1.2.2.2.2.2.1 l hl).2.2.1, fun l hl => by rw [hrq l hl]; exact cgh_bd hC.1 i j l hl (by omega), rfl⟩
    · refine br_f xc_ne0 ?_
      refine ⟨s, t, u, A, F, 1, rfl, rfl, by decide, by decide, ?_⟩
      exact cQ_e h (cif_f' (fun q => g.elim (fun g => isS_n hk hk8 g q.1) (fun g => g q.2)) rfl) hR hX
  · rintro m pc m9 ls st w hc9 ⟨rfl, rfl, i, j, l, s', t', A', hi, es, hj, ej, gd, hl, rfl, rfl, rfl, hR', hX', hrp, hrq, hbp, hbq, hL⟩
    have hq : isS (mA 1) x ∧ (1 ≤ d9 ∧ d9 ≤ 11) := ⟨by rw [es]; exact isS_i hk hk8 hi, gd⟩
    have ex : x.toNatClampNeg = i := by rw [es, cl (by omega)]
    obtain ⟨_, _, _, _, _, _, _, _, hKV', _, _⟩ := ctx hC hR' hX'
    refine And.intro (fun g => ?_) (fun g => ?_)
    · have g : nI 200 < nI l := g
      rw [fa_lt, nI_toInt (by omega), nI_toInt (by omega)] at g
      have el : l = 201 := by omega
      subst el
      refine ⟨s', t', u, A', F, 2, rfl, rfl, by decide, by decide, ?_⟩
      exact cQ_e h (cif_t' hq (cif_t' (by rw [ex, ej]; exact hL) rfl)) hR' hX'
    · have g : ¬ nI 200 < nI l := g
      rw [fa_lt, nI_toInt (by omega), nI_toInt (by omega)] at g
      have hlt : l ≤ 200 := by omega
      refine ⟨s', t', u, A', F, k, by rw [← hF12], rfl, hk8, fun v hv => ?_⟩
      have ev : v = otm mA i (nI j) l := by
        rw [hv]
        unfold otm
        rw [eK]
        exact oth_cg k hrp hrq
      refine And.intro (fun g2 => ?_) (fun g2 => ?_)
      · have g2 : ¬ v = 0 := g2
        rw [ev] at g2
        refine Or.inl ⟨s', t', u, A', F, mA 1, n, k, 1, rfl, rfl, by omega, hC.1, hC.2.1, hR'.1, hKV', hbp, fun s2 A2 hS2 hK2 hr2 => ?_⟩
        obtain ⟨hR2, hX2⟩ := run1 hC hR' hX' hS2 (by decide) rfl hK2
        have erq : A2 (rq t') = A' (rq t') := hS2 (rq t') (by cases t' <;> rfl)
        refine Or.inr ⟨s2, t', u, A2, F, mA 1, n, k, 1, rfl, rfl, by omega, hC.1, hC.2.1, hR2.1, hK2, fun q hq => by rw [erq]; exact hbq q hq, fun t2 A3 hS3 hK3 hr3 => ?_⟩
        obtain ⟨hR3, hX3⟩ := run1 hC hR2 hX2 hS3 (by decide) rfl hK3
        have erp : A3 (rp s2) = A2 (rp s2) := hS3 (rp s2) (by cases s2 <;> rfl)
        have hp3 : ∀ q, q < k → A3 (rp s2) q = stp (mA 1) k (A' (rp s')) q := fun q hq => by rw [erp]; exact hr2 q hq
        have hq3 : ∀ q, q < k → A3 (rq t2) q = stp (mA 1) k (A' (rq t')) q := fun q hq => by
          rw [hr3 q hq]
          show stp (mA 1) k (A2 (rq t')) q = _
          rw [erq]
        refine ⟨201 - (l + 1), by omega, rfl, rfl, i, j, l + 1, s2, t2, A3, hi, es, hj, ej, gd, by omega, rfl, by rw [← nI_1 l]; rfl, rfl, hR3, hX3, fun q hq => (hp3 q hq).trans (stp_cg hC.1 hrp q hq), fun q hq => (hq3 q hq).trans (stp_cg hC.1 hrq q hq), fun q hq => by rw [hp3 q hq]; exact stp_bd hn hn2 hn12 _ q hq, fun q hq => by rw [hq3 q hq]; exact stp_bd hn hn2 hn12 _ q hq, lead_go hL g2⟩
      · have g2 : v = 0 := Classical.byContradiction g2
        rw [ev] at g2
        have e2 : lead (fun m => ¬ otm mA i (nI j) m = 0) 201 = l := lead_stop hL (fun q => q g2) 201 (by omega)
        refine cQ_s h (cif_t' hq (cif_f' (by rw [ex, ej, e2]; omega) ?_)) hR' hX'
        rw [ex, ej, e2]
def sX9_check : XS := fun as w post => ∃ (s t u : Bool) (A : XA) (F : Nat → Int32) (mA : XA) (mF : Nat → Int32) (c n k : Nat) (x : Int32), as = [.ref 0, .int x] ∧ w = CW s t u A F ∧ CI mA mF n k ∧ Rel mA mF A F ∧ Aux (mA 1) A F c ∧ c < 2 ^ 28 ∧ cQ (qcheck x mA mF) c post
set_option maxRecDepth 10000 in
set_option maxHeartbeats 1000000 in
theorem mX9_check (d : Nat) (hd : 5 ≤ d) : xCT d yX9_check cX9_check 4 (some .int) sX9_check := by
  obtain ⟨d, rfl⟩ : ∃ e, d = e + 1 := ⟨d - 1, by omega⟩
  refine xmet (tb := tX9_check) (fl := fX9) (kc := nX9) (gs := g0) (cl := xlk [(117, true, 2, xrcv 1 (sX1_has_W)), (86, true, 2, xrcv 9 (sX9_fail)), (209, true, 2, xrcv 5 (sX5_startFrom_Wr)), (213, true, 4, xrcv 5 (sX5_goOn_Wr))]) (by decide) tX9_check_ok fX9_ok nX9_ok g0_ok (xg_cons (k_X9_117 (mX1_has_W d (by omega))) (xg_cons (k_X9_86 (mX9_fail d (by omega))) (xg_cons (k_X9_209 (mX5_startFrom_Wr d (by omega))) (xg_cons (k_X9_213 (mX5_goOn_Wr d (by omega))) xg_nil)))) ?_
  rintro L xs as w Qp ⟨s, t, u, A, F, mA, mF, c, n, k, x, rfl, rfl, hC, hR, hX, hc, h⟩
  obtain ⟨hn, hn2, hn12, hk, hk8, hF11, hF12, hA, hKV, h54, h58⟩ := ctx hC hR hX
  obtain ⟨_, _, _, _, _, _, _, _, ⟨w0, hw0, ew0⟩, _⟩ := hC.1
  have e16 : F 16 = nI w0 := hR.1.2.2.2.2.2.1.trans ew0
  have hI5 : DI (upd (mA 1) 5 0) n k := DI5 hC.1
  have hT50 : TXO (upd (mA 1) 5 0) 0 := TXO5 hC.2.1
  have hT51 : TXO (upd (mA 1) 5 0) 1 := TXO5 hC.2.2.1
  have hC5 : CI (aset mA 1 (upd (mA 1) 5 0)) mF n k := ⟨hI5, hT50, hT51, hC.2.2.2.1, hC.2.2.2.2.1, hC.2.2.2.2.2⟩
  have u5 : ∀ j, j ≠ 5 → upd (mA 1) 5 0 j = mA 1 j := fun j hj => pk_un hj
  have hR5 : Rel (aset mA 1 (upd (mA 1) 5 0)) mF A (fset F 16 0) := Rel_ch hR sm_rf (fsm_fset rfl) (CRg2 hR.1 (DI_b hC.1) (fun v hv => ⟨u5 _ (by omega), fun j hj => u5 _ (by omega)⟩) (hR.1.1.trans (u5 _ (by omega)).symm) (hR.1.2.1.trans (u5 _ (by omega)).symm) (hR.1.2.2.1.trans (u5 _ (by omega)).symm) (hR.1.2.2.2.1.trans (u5 _ (by omega)).symm) (hR.1.2.2.2.2.1.trans (u5 _ (by omega)).symm) pk_us.symm rfl rfl rfl rfl (fun j hj => by
      rw [u5 2 (by omega)] at hj
      rw [u5 _ (by omega), u5 _ (by omega), u5 _ (by omega), u5 _ (by omega), u5 _ (by omega), u5 _ (by omega), u5 _ (by omega)]
      exact hR.1.2.2.2.2.2.2.1 j hj) (fun j hj => by
      rw [u5 4 (by omega)] at hj
      rw [u5 _ (by omega)]
      exact hR.1.2.2.2.2.2.2.2.1 j hj) (fun j hj => by
      rw [pk_us] at hj
      exact absurd hj (Nat.not_lt_zero _))) hR.2.2.2.2.2.2.2.1
  have hX5 : Aux (upd (mA 1) 5 0) A (fset F 16 0) c := Aux_i hI5.1 hI5.2.2.2.1 hn12 hk8 (KV_d2 hKV (DI_b hC.1 0 (by omega)) (u5 _ (by omega)) (fun j hj => u5 _ (by omega)) (u5 _ (by omega)) (fun j hj => ⟨u5 _ (by omega), u5 _ (by omega)⟩)) h54 h58
  have eit : ∀ m r, itr (upd (mA 1) 5 0) k m r = itr (mA 1) k m r := fun m r => itr_cg5 u5 k r m
  have enw : nw (upd (mA 1) 5 0) = nw (mA 1) := funext fun j => u5 _ (by omega)
  refine ⟨Nat.le_of_ble_eq_true rfl, 400, xlk [(49, 4)], fun m pc ls st w => pc = 49 ∧ st = [] ∧ ∃ i l s' A', i < k ∧ x = nI i ∧ l ≤ w0 ∧ m = w0 - l ∧ ls = [(0, .ref 0), (1, .int x), (2, .int (nI w0)), (3, .int (nI l))] ∧ w = CW s' t u A' (fset F 16 0) ∧ Rel (aset mA 1 (upd (mA 1) 5 0)) mF A' (fset F 16 0) ∧ Aux (upd (mA 1) 5 0) A' (fset F 16 0) c ∧ A' 10 = A 10 ∧ (∀ q, q < k → A' (rp s') q = itr (mA 1) k l (nw (mA 1)) q) ∧ (∀ q, q < k → bd (A' (rp s') q) n) ∧ ck (mA 1) k i l = l, ?_, ?_⟩
  · refine ⟨s, t, u, A, fset F 16 0, x, k, rfl, rfl, hF12, hk8, fun i hi es => ?_, fun g => ?_⟩
    · refine br_t xc_ne1 ?_
      refine ⟨s, t, u, A, fset F 16 0, rfl, rfl, fun A1 e1 => ?_⟩
      obtain ⟨hS1, hC1, hK1, hr1, hb1, hR1, hX1⟩ := run0 hC5 hR5 hX5 (rpS s).1 (rpS s).2.1 (rpS s).2.2 e1
      refine ⟨w0, rfl, rfl, i, 0, s, A1, hi, es, Nat.zero_le _, rfl, by rw [← e16]; rfl, rfl, hR1, hX1, hS1 10 rfl, fun q hq => (hr1 q hq).trans (congrFun enw q), hb1, rfl⟩
    · refine br_f xc_ne0 ?_
      refine ⟨s, t, u, A, fset F 16 0, 1, rfl, rfl, by decide, by decide, ?_⟩
      exact cQ_e h (cif_f' (isS_n hk hk8 g) rfl) hR5 hX5
  · rintro m pc m9 ls st w hc9 ⟨rfl, rfl, i, l, s', A', hi, es, hl, rfl, rfl, rfl, hR', hX', h10, hrp, hbp, hck⟩
    have ex : x.toNatClampNeg = i := by rw [es, cl (by omega)]
    have hq : isS (mA 1) x := by rw [es]; exact isS_i hk hk8 hi
    obtain ⟨_, _, _, _, _, _, _, _, hKV', _, _⟩ := ctx hC5 hR' hX'
    refine And.intro (fun g => ?_) (fun g => ?_)
    · have := ge_n (k := w0) rfl (by omega) (by omega) g
      have el : l = w0 := by omega
      subst el
      refine cQ_s h (cif_t' hq ?_) hR' hX'
      rw [ex, hk, ew0, cl (by omega), cl (by omega), cif_t hck]
      rfl
    · have hlt := nge_n (k := w0) rfl (by omega) (by omega) g
      refine ⟨s', t, u, A', fset F 16 0, upd (mA 1) 5 0, n, k, 1, rfl, rfl, by omega, hI5, hT50, hR'.1, hKV', hbp, fun s2 A2 hS2 hK2 hr2 => ?_⟩
      obtain ⟨hR2, hX2⟩ := run1 hC5 hR' hX' hS2 (by decide) rfl hK2
      have hr3 : ∀ q, q < k → A2 (rp s2) q = itr (mA 1) k (l + 1) (nw (mA 1)) q := fun q hq => by
        rw [hr2 q hq, eit]
        show stp (mA 1) k (A' (rp s')) q = _
        exact stp_cg hC.1 hrp q hq
      have i0 : vp_in x 8 := by rw [es]; exact vp_in_nI (by omega) (by decide)
      have j0 : vp_in (nI l) 20 := vp_in_nI (by omega) (by decide)
      have e1 : A2 (rp s2) x.toNatClampNeg = itr (mA 1) k (l + 1) (nw (mA 1)) i := by rw [ex]; exact hr3 i hi
      have e2 : A2 10 (nI l).toNatClampNeg = mA 1 (76 + l) := by
        rw [cl (by omega), hS2 10 rfl, h10]
        exact hR.1.2.2.2.2.2.2.2.2.1 l (by rw [ew0, cl (by omega)]; exact hlt)
      have fin : ¬ A2 (rp s2) x.toNatClampNeg = A2 10 (nI l).toNatClampNeg → Qp (some (.int (1 + nI l))) (CW s2 t u A2 (fset F 16 0)) := fun g2 => by
        rw [e1, e2] at g2
        have e3 : ck (mA 1) k i w0 = l := ck_stop hck g2 w0 (by omega)
        refine cQ_s h (cif_t' hq ?_) hR2 hX2
        rw [ex, hk, ew0, cl (by omega), cl (by omega), e3, cif_f (by omega), show (1 : Int32) = nI 1 from rfl, nI_add]
      have go : A2 (rp s2) x.toNatClampNeg = A2 10 (nI l).toNatClampNeg → ck (mA 1) k i (l + 1) = l + 1 := fun g2 => by
        rw [e1, e2] at g2
        exact cif_t ⟨hck, g2⟩
      have nx1 : A2 10 = A 10 := (hS2 10 rfl).trans h10
      cases s2
      · refine And.intro i0 (And.intro j0 ?_)
        refine And.intro (fun g2 => ?_) (fun g2 => ?_)
        · exact ⟨w0 - (l + 1), by omega, rfl, rfl, i, l + 1, false, A2, hi, es, hlt, rfl, by rw [← nI_1 l]; rfl, rfl, hR2, hX2, nx1, hr3, fun q hq => by rw [hr3 q hq]; exact stp_bd hn hn2 hn12 _ q hq, go g2⟩
        · exact fin g2
      · refine And.intro i0 (And.intro j0 ?_)
        refine And.intro (fun g2 => ?_) (fun g2 => ?_)
        · exact ⟨w0 - (l + 1), by omega, rfl, rfl, i, l + 1, true, A2, hi, es, hlt, rfl, by rw [← nI_1 l]; rfl, rfl, hR2, hX2, nx1, hr3, fun q hq => by rw [hr3 q hq]; exact stp_bd hn hn2 hn12 _ q hq, go g2⟩
        · exact fin g2
