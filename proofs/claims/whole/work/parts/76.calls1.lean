/-! ===== the class's calls: singers ===== -/
theorem isO_up : ∀ p b : Fin 7, p.val ≠ 0 → p.val ≠ b.val → (isO (nI p.val) (nI b.val) ↔ isO (nI (abv p.val)) (nI b.val)) := by
  unfold isO
  decide +kernel
theorem isO_0 : ∀ b : Fin 7, b.val ≠ 0 → ¬ isO (nI 0) (nI b.val) := by
  unfold isO
  decide +kernel
theorem isO_s (x : Int32) : isO x x := Or.inr (Or.inl rfl)
def sX9_isUnder : XS := fun as w post => ∃ a b : Nat, as = [.int (nI a), .int (nI b)] ∧ a < 7 ∧ b < 7 ∧ (isO (nI a) (nI b) → post (some (.int 1)) w) ∧ (¬ isO (nI a) (nI b) → post (some (.int 0)) w)
set_option maxRecDepth 10000 in
set_option maxHeartbeats 1000000 in
theorem mX9_isUnder (d : Nat) (hd : 0 ≤ d) : xCT d yX9_isUnder cX9_isUnder 4 (some .boolean) sX9_isUnder := by
  refine xmet (tb := tX9_isUnder) (fl := fX9) (kc := nX9) (gs := gX9) (cl := xlk []) (by decide) tX9_isUnder_ok fX9_ok nX9_ok gX9_ok xg_nil ?_
  rintro L xs as w Qp ⟨a, b, rfl, ha, hb, h1, h2⟩
  refine ⟨Nat.le_of_ble_eq_true rfl, 400, xlk [(4, 4)], fun m pc ls st w' => pc = 4 ∧ st = [] ∧ w' = w ∧ ∃ (i : Nat) (x : Int32), ls = [(0, .int (nI a)), (1, .int (nI b)), (2, .int x), (3, .int (nI i))] ∧ ((∃ p, p < 7 ∧ x = nI p ∧ i + lvl8 p ≤ 2 ∧ m = 1 + lvl8 p ∧ (isO (nI a) (nI b) ↔ isO (nI p) (nI b))) ∨ (x = -1 ∧ i ≤ 3 ∧ m = 0 ∧ ¬ isO (nI a) (nI b))), ?_, ?_⟩
  · exact ⟨1 + lvl8 a, rfl, rfl, rfl, 0, nI a, rfl, Or.inl ⟨a, ha, rfl, by have := lvl8_2 ha; omega, rfl, Iff.rfl⟩⟩
  · rintro m pc m9 ls st w' hc ⟨rfl, rfl, rfl, i, x, rfl, ⟨p, hp, rfl, hi, rfl, hO⟩ | ⟨rfl, hi, rfl, hO⟩⟩
    · refine And.intro (fun g => ?_) (fun g => ?_)
      · have := ge_n (x := 7) (k := 7) rfl (by omega) (by omega) g
        omega
      · refine And.intro (fun g2 => ?_) (fun g2 => ?_)
        · have g2 : nI p < 0 := g2
          exact absurd (nI_pos' (by omega)) (fa_of_lt g2).2.1
        · refine And.intro (fun g3 => ?_) (fun g3 => ?_)
          · have g3 : nI p = nI b := g3
            refine br_f (fun q => q g3) ?_
            exact ⟨rfl, h1 (hO.mpr (by rw [g3]; exact isO_s _))⟩
          · have g3 : ¬ nI p = nI b := g3
            refine And.intro (show vp_in (nI p) 7 from vp_in_nI (by omega) (by decide)) ?_
            have e : xcf xs 0 (nI p).toNatClampNeg = xka.getD p 0 := by
              rw [cl (by omega)]
              rfl
            by_cases p0 : p = 0
            · subst p0
              refine ⟨0, by omega, rfl, rfl, rfl, i + 1, -1, by rw [← nI_1 i]; rfl, Or.inr ⟨rfl, by omega, rfl, fun q => isO_0 ⟨b, hb⟩ (fun q2 => g3 (by rw [show b = 0 from q2])) (hO.mp q)⟩⟩
            · obtain ⟨u1, u2, u3, u4, u5⟩ := rk_up (act := 0) hp p0
              refine ⟨1 + lvl8 (abv p), by omega, rfl, rfl, rfl, i + 1, nI (abv p), ?_, Or.inl ⟨abv p, u3, rfl, by omega, rfl, hO.trans (isO_up ⟨p, hp⟩ ⟨b, hb⟩ p0 (fun q => g3 (by rw [show p = b from q])))⟩⟩
              rw [← u5, ← e, ← nI_1 i]
              rfl
    · have nb : ¬ (-1 : Int32) = nI b := fun q => absurd (nI_pos' (n := b) (by omega)) (by rw [← q]; decide)
      refine And.intro (fun g => ?_) (fun g => ?_)
      · refine br_t nb ?_
        exact ⟨rfl, h2 hO⟩
      · refine br_t (show (-1 : Int32) < 0 by decide) ?_
        refine br_t nb ?_
        exact ⟨rfl, h2 hO⟩
/-- a run from the notes of now -/
theorem run0 {mA : XA} {mF : Nat → Int32} {A A1 : XA} {F : Nat → Int32} {c n k p : Nat} (hC : CI mA mF n k) (hR : Rel mA mF A F) (hX : Aux (mA 1) A F c) (hp : SCR.contains p = true) (hp8 : 46 < p) (hp58 : p ≠ 58) (e : A1 = aset A p (cpU (A 4) (A p) 8)) : sm SCR A1 A ∧ CR (mA 1) (adn CP1 A1) F ∧ KV (fun i => A1 (39 + i)) (mA 1) n k ∧ (∀ i, i < k → A1 p i = nw (mA 1) i) ∧ (∀ i, i < k → bd (A1 p i) n) ∧ Rel mA mF A1 F ∧ Aux (mA 1) A1 F c := by
  obtain ⟨hn, hn2, hn12, hk, hk8, hF11, hF12, hA, hKV, h54, h58⟩ := ctx hC hR hX
  have hS : sm SCR A1 A := by rw [e]; exact sm_aset hp
  have hR1 := Rel_scr hR hS fsm_rf
  have hK1 : KV (fun i => A1 (39 + i)) (mA 1) n k := KV_cg hKV (fun t ht => by rw [e]; exact asN (by omega))
  have hr : ∀ i, i < k → A1 p i = nw (mA 1) i := fun i hi => by
    rw [e]
    show aset A p (cpU (A 4) (A p) 8) p i = _
    rw [aset_s, cpU_lt (by omega)]
    exact (hA i hi).2.2.1
  refine ⟨hS, hR1.1, hK1, hr, fun i hi => ?_, hR1, Aux_i hn hk hn12 hk8 hK1 h54 (fun q hq => ?_)⟩
  · rw [hr i hi]
    exact (hC.1.2.2.2.2.2.1 i hi).2.2.1
  · rw [e, asN (Ne.symm hp58)]
    exact h58 q hq
theorem rpS (s : Bool) : SCR.contains (rp s) = true ∧ 46 < rp s ∧ rp s ≠ 58 := by cases s <;> decide
theorem rqS (t : Bool) : SCR.contains (rq t) = true ∧ 46 < rq t ∧ rq t ≠ 58 := by cases t <;> decide
/-- after a run went on -/
theorem run1 {mA : XA} {mF : Nat → Int32} {A A1 : XA} {F : Nat → Int32} {c n k : Nat} {l : List Nat} (hC : CI mA mF n k) (hR : Rel mA mF A F) (hX : Aux (mA 1) A F c) (hS : sm l A1 A) (hl : l.all (fun x => SCR.contains x) = true) (h58 : l.contains 58 = false) (hK : KV (fun i => A1 (39 + i)) (mA 1) n k) : Rel mA mF A1 F ∧ Aux (mA 1) A1 F c := by
  obtain ⟨hn, hn2, hn12, hk, hk8, hF11, hF12, hA, hKV, h54, h58'⟩ := ctx hC hR hX
  exact ⟨Rel_scr hR (sm_w hS hl) fsm_rf, Aux_i hn hk hn12 hk8 hK h54 (fun q hq => by rw [hS 58 h58]; exact h58' q hq)⟩
def sX9_noteAhead : XS := fun as w post => ∃ (s t u : Bool) (A : XA) (F : Nat → Int32) (mA : XA) (mF : Nat → Int32) (c n k m i : Nat), as = [.ref 0, .int (nI m), .int (nI i)] ∧ w = CW s t u A F ∧ CI mA mF n k ∧ Rel mA mF A F ∧ Aux (mA 1) A F c ∧ m < 2 ^ 31 ∧ i < k ∧ ∀ s' A' v, Rel mA mF A' F → Aux (mA 1) A' F c → v = itr (mA 1) k m (nw (mA 1)) i → post (some (.int v)) (CW s' t u A' F)
set_option maxRecDepth 10000 in
set_option maxHeartbeats 1000000 in
theorem mX9_noteAhead (d : Nat) (hd : 5 ≤ d) : xCT d yX9_noteAhead cX9_noteAhead 3 (some .int) sX9_noteAhead := by
  obtain ⟨d, rfl⟩ : ∃ e, d = e + 1 := ⟨d - 1, by omega⟩
  refine xmet0 (tb := tX9_noteAhead) (fl := fX9) (kc := nX9) (gs := g0) (cl := xlk [(209, true, 2, xrcv 5 (sX5_startFrom_Wr)), (213, true, 4, xrcv 5 (sX5_goOn_Wr))]) 400 (by decide) tX9_noteAhead_ok fX9_ok nX9_ok g0_ok (xg_cons (k_X9_209 (mX5_startFrom_Wr d (by omega))) (xg_cons (k_X9_213 (mX5_goOn_Wr d (by omega))) xg_nil)) ?_
  rintro L xs as w Qp ⟨s, t, u, A, F, mA, mF, c, n, k, m, i, rfl, rfl, hC, hR, hX, hm, hi, h⟩
  obtain ⟨hn, hn2, hn12, hk, hk8, hF11, hF12, hA, hKV, h54, h58⟩ := ctx hC hR hX
  refine ⟨Nat.le_of_ble_eq_true rfl, ?_⟩
  refine ⟨s, t, u, A, F, rfl, rfl, fun A1 e1 => ?_⟩
  obtain ⟨hS1, hC1, hK1, hr1, hb1, hR1, hX1⟩ := run0 hC hR hX (rpS s).1 (rpS s).2.1 (rpS s).2.2 e1
  refine ⟨s, t, u, A1, F, mA 1, n, k, m, rfl, rfl, hm, hC.1, hC.2.1, hC1, hK1, hb1, fun s' A2 hS2 hK2 hr2 => ?_⟩
  obtain ⟨hR2, hX2⟩ := run1 hC hR1 hX1 hS2 (by decide) rfl hK2
  have i0 : vp_in (nI i) 8 := vp_in_nI (by omega) (by decide)
  have ev : A2 (rp s') (nI i).toNatClampNeg = itr (mA 1) k m (nw (mA 1)) i := by rw [cl (by omega), hr2 i hi, itr_cg hC.1 hr1 m i hi]
  cases s'
  · refine And.intro i0 ?_
    exact h false A2 _ hR2 hX2 ev
  · refine And.intro i0 ?_
    exact h true A2 _ hR2 hX2 ev
def sX9_seed : XS := fun as w post => ∃ (s t u : Bool) (A : XA) (F : Nat → Int32) (mA : XA) (mF : Nat → Int32) (c n k : Nat) (v : Int32), as = [.ref 0, .int v] ∧ w = CW s t u A F ∧ CI mA mF n k ∧ Rel mA mF A F ∧ Aux (mA 1) A F c ∧ c < 2 ^ 28 ∧ cQ (qseed v mA mF) c post
set_option maxRecDepth 10000 in
set_option maxHeartbeats 1000000 in
theorem mX9_seed (d : Nat) (hd : 0 ≤ d) : xCT d yX9_seed cX9_seed 3 (some .int) sX9_seed := by
  refine xmet0 (tb := tX9_seed) (fl := fX9) (kc := nX9) (gs := g0) (cl := xlk []) 400 (by decide) tX9_seed_ok fX9_ok nX9_ok g0_ok xg_nil ?_
  rintro L xs as w Qp ⟨s, t, u, A, F, mA, mF, c, n, k, v, rfl, rfl, hC, hR, hX, hc, h⟩
  obtain ⟨hn, hn2, hn12, hk, hk8, hF11, hF12, hA, hKV, h54, h58⟩ := ctx hC hR hX
  refine ⟨Nat.le_of_ble_eq_true rfl, ?_⟩
  have hz : F 14 = mA 1 3 := hR.1.2.2.2.1
  have h9 := cQ_ch (v := F 14) (A' := A) (F' := fset F 14 v) (c' := c) (s := s) (t := t) (u := u) (upd (mA 1) 3 v) h (by rw [hz]; rfl) hR sm_rf (fsm_fset rfl) (CRsg hR.1 (fun j hj => pk_un (by omega)) (pk_un (by omega)) (pk_un (by omega)) (pk_un (by omega)) (pk_un (by omega)) (hR.1.2.2.1.trans (pk_un (by omega)).symm) pk_us.symm rfl rfl rfl rfl rfl rfl rfl rfl rfl rfl (fun i hi => ?_)) hR.2.2.2.2.2.2.2.1 (Aux_i ((pk_un (by omega)).trans hn) ((pk_un (by omega)).trans hk) hn12 hk8 (KV_dcg hKV (fun j hj => pk_un (by omega)) (pk_un (by omega)) (fun i hi => ⟨pk_un (by omega), pk_un (by omega)⟩)) h54 h58)
  · exact h9
  · have q := hR.1.2.2.2.2.2.2.1 i hi
    rw [pk_un (by omega), pk_un (by omega), pk_un (by omega), pk_un (by omega), pk_un (by omega), pk_un (by omega), pk_un (by omega)]
    exact q
