/-! ===== the class's calls: text ===== -/
theorem PR_pos {b : Nat → Int32} {n u : Nat} (h : (PR b n u 0 0 0).1 = true) : 0 < (PR b n u 0 0 0).2.1 := by
  have h1 := PR_len h
  have h2 : WV (fun _ => 0) (PR b n u 0 0 0).2.2 := (PP_ok (fun _ => 0) b n u 700 0 0 0 h).1 (by omega)
  have h3 : (PR b n u 0 0 0).2.2 ≠ [] := fun e => by
    rw [e] at h2
    have := h2 []
    cases this
  have h4 : 0 < (PR b n u 0 0 0).2.2.length := List.length_pos_iff.mpr h3
  omega
theorem PR_LH {b : Nat → Int32} {n u : Nat} {p : Nat → Int32} {z : Int32} (h : (PR b n u 0 0 0).1 = true) (hn : n ≤ 50) (hz : z = nI (PR b n u 0 0 0).2.2.length) (hp : ∀ i (hi : i < (PR b n u 0 0 0).2.2.length), p i = (PR b n u 0 0 0).2.2[i]) : LH p z (PR b n u 0 0 0).2.2 := by
  have h1 := PR_len h
  have h2 := PR_le b u 0 0 (Nat.zero_le n)
  exact ⟨hz, by omega, hp, (PP_ok (fun _ => 0) b n u 700 0 0 0 h).2.2.2, Or.inr (fun nm => (PP_ok nm b n u 700 0 0 0 h).1 (by omega))⟩
/-- the text kept -/
theorem tps_txt {D : Nat → Int32} {v f : Nat} (hv : v < 2) (hf : f ≤ 50) (h : (PR (fun j => D (196 + j)) f v 0 0 0).1 = true) (he : (PR (fun j => D (196 + j)) f v 0 0 0).2.1 = f) : tps (txtD (upd D 4 0) v f f) v = (PR (fun j => D (196 + j)) f v 0 0 0).2.2 := by
  have hpos := PR_pos h
  rw [he] at hpos
  have e1 : txtD (upd D 4 0) v f f (72 + v) = nI f := if_pos rfl
  have e2 : ∀ j, j < f → txtD (upd D 4 0) v f f (96 + 50 * v + j) = D (196 + j) := fun j hj => by
    unfold txtD
    rw [if_neg (by omega), if_pos (by omega), pk_un (by omega)]
    congr 1
    omega
  unfold tps
  rw [e1, cif_f (nI_ne0 hpos (by omega)), cl (by omega), PR_cg (b := fun j => txtD (upd D 4 0) v f f (96 + 50 * v + j)) (b' := fun j => D (196 + j)) e2]
theorem tps_oth {D : Nat → Int32} {n k v w f : Nat} (hI : DI D n k) (hv : v < 2) (hw : w < 2) (hne : w ≠ v) (hf : f ≤ 50) : tps (txtD (upd D 4 0) v f f) w = tps D w := by
  refine tps_cg ?_ (DI_b hI w hw) (fun j hj => ?_)
  · unfold txtD
    rw [if_neg (by omega), if_neg (by omega), pk_un (by omega)]
  · unfold txtD
    rw [if_neg (by omega), if_neg (by omega), pk_un (by omega)]
def sX9_text : XS := fun as w post => ∃ (s t u : Bool) (A : XA) (F : Nat → Int32) (mA : XA) (mF : Nat → Int32) (c n k : Nat) (x : Int32), as = [.ref 0, .int x] ∧ w = CW s t u A F ∧ CI mA mF n k ∧ Rel mA mF A F ∧ Aux (mA 1) A F c ∧ c < 2 ^ 28 ∧ cQ (qtext x mA mF) c post
set_option maxRecDepth 10000 in
set_option maxHeartbeats 1000000 in
theorem mX9_text (d : Nat) (hd : 56 ≤ d) : xCT d yX9_text cX9_text 3 (some .int) sX9_text := by
  obtain ⟨d, rfl⟩ : ∃ e, d = e + 1 := ⟨d - 1, by omega⟩
  refine xmet (tb := tX9_text) (fl := fX9) (kc := nX9) (gs := g0) (cl := xlk [(82, false, 3, sX9_within), (86, true, 2, xrcv 9 (sX9_fail)), (169, true, 4, xrcv 3 (sX3_faultOf_W)), (180, true, 2, xrcv 2 (xor2 (sX2_copyFrom_Wa) (sX2_copyFrom_Ww))), (102, true, 1, xrcv 7 (sX7_forgetAll_W))]) (by decide) tX9_text_ok fX9_ok nX9_ok g0_ok (xg_cons (k_X9_82 (mX9_within d (by omega))) (xg_cons (k_X9_86 (mX9_fail d (by omega))) (xg_cons (k_X9_169 (mX3_faultOf_W d (by omega))) (xg_cons (k_X9_180 (xCT_or (mX2_copyFrom_Wa d (by omega)) (mX2_copyFrom_Ww d (by omega)))) (xg_cons (k_X9_102 (mX7_forgetAll_W d (by omega))) xg_nil))))) ?_
  rintro L xs as w Qp ⟨s, t, u, A, F, mA, mF, c, n, k, x, rfl, rfl, hC, hR, hX, hc, h⟩
  obtain ⟨hn, hn2, hn12, hk, hk8, hF11, hF12, hA, hKV, h54, h58⟩ := ctx hC hR hX
  obtain ⟨_, _, _, _, _, _, _, ⟨f, hf, ef⟩, _⟩ := hC.1
  have e15 : F 15 = nI f := hR.1.2.2.2.2.1.trans ef
  have eft : (mA 1 4).toNatClampNeg = f := by rw [ef, cl (by omega)]
  let b : Nat → Int32 := fun j => mA 1 (196 + j)
  have hb : b = fun j => mA 1 (196 + j) := rfl
  have hbb : bb mA 196 = b := rfl
  clear_value b
  have u4 : ∀ j, j ≠ 4 → upd (mA 1) 4 0 j = mA 1 j := fun j hj => pk_un hj
  have hK4 : ∀ {A' : XA}, sm SCR A' A → A' 58 = A 58 → KV (fun i => A' (39 + i)) (mA 1) n k → ∀ {F' : Nat → Int32}, fsm FSC F' F → F' 54 = F 54 → CR (upd (mA 1) 4 0) (adn CP1 A') (fset F' 15 0) ∧ Aux (upd (mA 1) 4 0) A' (fset F' 15 0) c := by
    intro A' hS h58' hK F' hF h54'
    refine ⟨CRg2 hR.1 (DI_b hC.1) (fun v hv => ⟨u4 _ (by omega), fun j hj => u4 _ (by omega)⟩) ((hF 11 rfl).trans (hR.1.1.trans (u4 _ (by omega)).symm)) ((hF 12 rfl).trans (hR.1.2.1.trans (u4 _ (by omega)).symm)) ((hF 13 rfl).trans (hR.1.2.2.1.trans (u4 _ (by omega)).symm)) ((hF 14 rfl).trans (hR.1.2.2.2.1.trans (u4 _ (by omega)).symm)) pk_us.symm ((hF 16 rfl).trans (hR.1.2.2.2.2.2.1.trans (u4 _ (by omega)).symm)) (hF 20 rfl) (hF 21 rfl) (hS 12 rfl) (hS 16 rfl) (fun j hj => ?_) (fun j hj => ?_) (fun j hj => ?_), Aux_i ((u4 _ (by omega)).trans hn) ((u4 _ (by omega)).trans hk) hn12 hk8 (KV_d2 hK (DI_b hC.1 0 (by omega)) (u4 _ (by omega)) (fun j hj => u4 _ (by omega)) (u4 _ (by omega)) (fun j hj => ⟨u4 _ (by omega), u4 _ (by omega)⟩)) (h54'.trans h54) (fun q hq => by rw [h58']; exact h58 q hq)⟩
    · rw [u4 2 (by omega)] at hj
      have q := hR.1.2.2.2.2.2.2.1 j hj
      rw [u4 _ (by omega), u4 _ (by omega), u4 _ (by omega), u4 _ (by omega), u4 _ (by omega), u4 _ (by omega), u4 _ (by omega)]
      exact ⟨(congrFun (hS 2 rfl) j).trans q.1, (congrFun (hS 3 rfl) j).trans q.2.1, (congrFun (hS 4 rfl) j).trans q.2.2.1, (congrFun (hS 6 rfl) j).trans q.2.2.2.1, (congrFun (hS 7 rfl) j).trans q.2.2.2.2.1, (congrFun (hS 5 rfl) j).trans q.2.2.2.2.2.1, (congrFun (hS 8 rfl) j).trans q.2.2.2.2.2.2⟩
    · rw [pk_us] at hj
      exact absurd hj (Nat.not_lt_zero _)
    · rw [u4 5 (by omega)] at hj
      rw [u4 _ (by omega)]
      exact (congrFun (hS 10 rfl) j).trans (hR.1.2.2.2.2.2.2.2.2.1 j hj)
  refine ⟨Nat.le_of_ble_eq_true rfl, 400, xlk [(46, 3)], fun m pc ls st w => pc = 46 ∧ st = [] ∧ m = 0 ∧ ∃ (v : Bool) (y : Int32) (A' : XA) (F' : Nat → Int32), x = nI (uN v) ∧ (0 ≤ x ∧ x ≤ 1) ∧ ls = [(0, .ref 0), (1, .int x), (2, .int y)] ∧ w = CW s t v A' (fset F' 15 0) ∧ sm [77, 80] A' A ∧ fsm [80, 81, 82] F' F ∧ ((y = -1 ∧ (PR b f (uN v) 0 0 0).1 = true ∧ (PR b f (uN v) 0 0 0).2.1 = f ∧ F' 82 = nI (PR b f (uN v) 0 0 0).2.2.length ∧ (∀ i (h : i < (PR b f (uN v) 0 0 0).2.2.length), A' 77 i = (PR b f (uN v) 0 0 0).2.2[i])) ∨ (y = nI (PR b f (uN v) 0 0 0).2.1 ∧ ¬ ((PR b f (uN v) 0 0 0).1 = true ∧ (PR b f (uN v) 0 0 0).2.1 = f))), ?_, ?_⟩
  · refine ⟨x, 0, 1, rfl, fun g1 g2 => ?_, fun g => ?_⟩
    · refine br_t xc_ne1 ?_
      obtain ⟨v, ev⟩ : ∃ v : Bool, x = nI (uN v) := by
        obtain ⟨j, hj, ej⟩ := rg (c := 1) (by omega) g1 g2
        have : j = 0 ∨ j = 1 := by omega
        rcases this with rfl | rfl
        · exact ⟨false, ej⟩
        · exact ⟨true, ej⟩
      refine ⟨s, t, u, A, F, b, f, v, by rw [← e15, ← ev], rfl, by omega, hR.2.2.2.2.2.2.2.1, fun j hj => ?_, fun r hr => ⟨fun ok e A1 F1 hS h82 hp hF => ?_, fun hno A1 F1 hS hF => ?_⟩⟩
      · rw [hb]
        exact hR.1.2.2.2.2.2.2.2.1 j (by rw [eft]; exact hj)
      · subst hr
        exact ⟨0, rfl, rfl, rfl, v, -1, A1, F1, ev, ⟨g1, g2⟩, rfl, rfl, hS, hF, Or.inl ⟨rfl, ok, e, h82, hp⟩⟩
      · subst hr
        exact ⟨0, rfl, rfl, rfl, v, _, A1, F1, ev, ⟨g1, g2⟩, rfl, rfl, hS, hF, Or.inr ⟨rfl, hno⟩⟩
    · refine br_f xc_ne0 ?_
      refine ⟨s, t, u, A, F, 1, rfl, rfl, by decide, by decide, ?_⟩
      exact cQ_e h (cif_f' g rfl) hR hX
  · rintro m pc m9 ls st w hc9 ⟨rfl, rfl, rfl, v, y, A', F', ev, gx, rfl, rfl, hS, hF, hcase⟩
    have exv : x.toNatClampNeg = uN v := by rw [ev, cl (by cases v <;> decide)]
    have hlef : (PR b f (uN v) 0 0 0).2.1 ≤ f := PR_le _ _ _ _ (Nat.zero_le _)
    have hv2 : uN v < 2 := by cases v <;> decide
    rcases hcase with ⟨rfl, ok, e, h82, hp⟩ | ⟨rfl, hno⟩
    · refine And.intro (fun g => ?_) (fun g => absurd (show (-1 : Int32) < 0 by decide) g)
      have hq : qtext x mA mF = (1, aset mA 1 (txtD (upd (mA 1) 4 0) (uN v) f f), mF) := by
        unfold qtext
        rw [hbb, eft, exv]
        exact cif_t' gx (cif_t' ⟨ok, e⟩ rfl)
      have td : ∀ j, j < 72 → txtD (upd (mA 1) 4 0) (uN v) f f j = upd (mA 1) 4 0 j := fun j hj => by
        unfold txtD
        rw [if_neg (by omega), if_neg (by omega)]
      have tw : ∀ j, 76 ≤ j → j < 96 → txtD (upd (mA 1) 4 0) (uN v) f f j = upd (mA 1) 4 0 j := fun j hj hj2 => by
        unfold txtD
        rw [if_neg (by omega), if_neg (by omega)]
      have okb : (PR (fun j => mA 1 (196 + j)) f (uN v) 0 0 0).1 = true := by rw [← hb]; exact ok
      have eb : (PR (fun j => mA 1 (196 + j)) f (uN v) 0 0 0).2.1 = f := by rw [← hb]; exact e
      have ltx : tps (txtD (upd (mA 1) 4 0) (uN v) f f) (uN v) = (PR b f (uN v) 0 0 0).2.2 := by
        rw [hb]
        exact tps_txt hv2 (by omega) okb eb
      have lh : LH (A' 77) (F' 82) (PR b f (uN v) 0 0 0).2.2 := PR_LH ok (by omega) h82 hp
      have common : ∀ (A2 : XA) (F2 : Nat → Int32), sm (12 :: 16 :: SCR) A2 A → fsm (15 :: 20 :: 21 :: FSC) F2 F → F2 15 = 0 → LH (A2 12) (F2 20) (tps (txtD (upd (mA 1) 4 0) (uN v) f f) 0) → LH (A2 16) (F2 21) (tps (txtD (upd (mA 1) 4 0) (uN v) f f) 1) → CR (txtD (upd (mA 1) 4 0) (uN v) f f) (adn CP1 A2) F2 := by
        intro A2 F2 hS2 hF2 f15 l0 l1
        refine ⟨(hF2 11 rfl).trans (hR.1.1.trans ((td _ (by omega)).trans (u4 _ (by omega))).symm), (hF2 12 rfl).trans (hR.1.2.1.trans ((td _ (by omega)).trans (u4 _ (by omega))).symm), (hF2 13 rfl).trans (hR.1.2.2.1.trans ((td _ (by omega)).trans (u4 _ (by omega))).symm), (hF2 14 rfl).trans (hR.1.2.2.2.1.trans ((td _ (by omega)).trans (u4 _ (by omega))).symm), f15.trans ((td _ (by omega)).trans pk_us).symm, (hF2 16 rfl).trans (hR.1.2.2.2.2.2.1.trans ((td _ (by omega)).trans (u4 _ (by omega))).symm), fun j hj => ?_, fun j hj => ?_, fun j hj => ?_, l0, l1⟩
        · rw [(td 2 (by omega)).trans (u4 2 (by omega))] at hj
          have hj8 : j < 8 := by
            have := hj
            rw [hk, cl (by omega)] at this
            omega
          have q := hR.1.2.2.2.2.2.2.1 j hj
          rw [(td _ (by omega)).trans (u4 (8 + 8 * j + 0) (by omega)), (td _ (by omega)).trans (u4 (8 + 8 * j + 1) (by omega)), (td _ (by omega)).trans (u4 (8 + 8 * j + 2) (by omega)), (td _ (by omega)).trans (u4 (8 + 8 * j + 3) (by omega)), (td _ (by omega)).trans (u4 (8 + 8 * j + 4) (by omega)), (td _ (by omega)).trans (u4 (8 + 8 * j + 5) (by omega)), (td _ (by omega)).trans (u4 (8 + 8 * j + 6) (by omega))]
          exact ⟨(congrFun (hS2 2 rfl) j).trans q.1, (congrFun (hS2 3 rfl) j).trans q.2.1, (congrFun (hS2 4 rfl) j).trans q.2.2.1, (congrFun (hS2 6 rfl) j).trans q.2.2.2.1, (congrFun (hS2 7 rfl) j).trans q.2.2.2.2.1, (congrFun (hS2 5 rfl) j).trans q.2.2.2.2.2.1, (congrFun (hS2 8 rfl) j).trans q.2.2.2.2.2.2⟩
        · rw [(td 4 (by omega)).trans pk_us] at hj
          exact absurd hj (Nat.not_lt_zero _)
        · rw [(td 5 (by omega)).trans (u4 5 (by omega))] at hj
          have hj20 : j < 20 := by
            obtain ⟨_, _, _, _, _, _, _, _, ⟨w5, hw5, ew5⟩, _⟩ := hC.1
            have := hj
            rw [ew5, cl (by omega)] at this
            omega
          rw [(tw _ (by omega) (by omega)).trans (u4 (76 + j) (by omega))]
          exact (congrFun (hS2 10 rfl) j).trans (hR.1.2.2.2.2.2.2.2.2.1 j hj)
      cases v
      · have ex0 : x = 0 := ev
        refine And.intro (fun g2 => absurd ex0 g2) (fun g2 => ?_)
        refine Or.inl ⟨s, t, false, A', fset F' 15 0, rfl, rfl, fun A1 F1 hA1 f20 hF1 => ?_⟩
        refine ⟨s, t, false, A1, F1, rfl, rfl, fun A2 hS2 hK2 => ?_⟩
        have hS1 : sm (12 :: 16 :: SCR) A2 A := sm_tr (sm_tr (sm_w hS rfl) (by rw [hA1]; exact sm_aset (q := 12) rfl)) (sm_w hS2 rfl)
        have hFF : fsm (15 :: 20 :: 21 :: FSC) F1 F := fsm_tr (fsm_tr (fsm_w hF rfl) (fsm_fset (q := 15) rfl)) (fsm_w hF1 rfl)
        have e12 : A2 12 = cpU (A' 77) (A' 12) 50 := by rw [hS2 12 rfl, hA1]; rfl
        have l0 : LH (A2 12) (F1 20) (tps (txtD (upd (mA 1) 4 0) 0 f f) 0) := by
          rw [e12, f20, show tps (txtD (upd (mA 1) 4 0) 0 f f) 0 = _ from ltx]
          exact LH_cg lh (fun i hi => cpU_lt hi)
        have l1 : LH (A2 16) (F1 21) (tps (txtD (upd (mA 1) 4 0) 0 f f) 1) := by
          rw [tps_oth hC.1 (by omega) (by omega) (by omega) (by omega), hS2 16 rfl, hA1, hF1 21 rfl]
          show LH (A' 16) (F' 21) _
          rw [hS 16 rfl, hF 21 rfl]
          exact hR.1.2.2.2.2.2.2.2.2.2.2
        refine cQ_ch (txtD (upd (mA 1) 4 0) 0 f f) (c' := c) h hq hR (sm_w hS1 (by decide)) (fsm_w hFF (by decide)) (common A2 F1 hS1 hFF (hF1 15 rfl) l0 l1) (by rw [hS1 9 rfl]; exact hR.2.2.2.2.2.2.2.1) (Aux_i (n := n) (k := k) ((td _ (by omega)).trans ((u4 _ (by omega)).trans hn)) ((td _ (by omega)).trans ((u4 _ (by omega)).trans hk)) hn12 hk8 (KV_all hK2 hn12 hk8) ((hF1 54 rfl).trans ((hF 54 rfl).trans h54)) (fun q hq => by rw [hS2 58 rfl, hA1]; show ∃ t, t ≤ c ∧ A' 58 q = nI t; rw [hS 58 rfl]; exact h58 q hq))
      · have ex1 : ¬ x = 0 := by rw [ev]; decide
        refine And.intro (fun g2 => ?_) (fun g2 => absurd ex1 g2)
        refine Or.inr ⟨s, t, true, A', fset F' 15 0, rfl, rfl, fun A1 F1 hA1 f21 hF1 => ?_⟩
        have hS1 : sm (12 :: 16 :: SCR) A1 A := sm_tr (sm_w hS rfl) (by rw [hA1]; exact sm_aset (q := 16) rfl)
        have hFF : fsm (15 :: 20 :: 21 :: FSC) F1 F := fsm_tr (fsm_tr (fsm_w hF rfl) (fsm_fset (q := 15) rfl)) (fsm_w hF1 rfl)
        have e16 : A1 16 = cpU (A' 77) (A' 16) 50 := by rw [hA1]; rfl
        have l1 : LH (A1 16) (F1 21) (tps (txtD (upd (mA 1) 4 0) 1 f f) 1) := by
          rw [e16, f21, show tps (txtD (upd (mA 1) 4 0) 1 f f) 1 = _ from ltx]
          exact LH_cg lh (fun i hi => cpU_lt hi)
        have l0 : LH (A1 12) (F1 20) (tps (txtD (upd (mA 1) 4 0) 1 f f) 0) := by
          rw [tps_oth hC.1 (by omega) (by omega) (by omega) (by omega), hA1, hF1 20 rfl]
          show LH (A' 12) (F' 20) _
          rw [hS 12 rfl, hF 20 rfl]
          exact hR.1.2.2.2.2.2.2.2.2.2.1
        have t72 : txtD (upd (mA 1) 4 0) 1 f f 72 = mA 1 72 := by
          unfold txtD
          rw [if_neg (by omega), if_neg (by omega), pk_un (by omega)]
        have t96 : ∀ j, j < 50 → txtD (upd (mA 1) 4 0) 1 f f (96 + j) = mA 1 (96 + j) := fun j hj => by
          unfold txtD
          rw [if_neg (by omega), if_neg (by omega), pk_un (by omega)]
        refine cQ_ch (txtD (upd (mA 1) 4 0) 1 f f) (c' := c) h hq hR (sm_w hS1 (by decide)) (fsm_w hFF (by decide)) (common A1 F1 hS1 hFF (hF1 15 rfl) l0 l1) (by rw [hS1 9 rfl]; exact hR.2.2.2.2.2.2.2.1) (Aux_i (n := n) (k := k) ((td _ (by omega)).trans ((u4 _ (by omega)).trans hn)) ((td _ (by omega)).trans ((u4 _ (by omega)).trans hk)) hn12 hk8 (KV_d2 (KV_cg hKV (fun t ht => ?_)) (DI_b hC.1 0 (by omega)) t72 t96 ((td _ (by omega)).trans (u4 _ (by omega))) (fun i hi => ⟨(td _ (by omega)).trans (u4 _ (by omega)), (td _ (by omega)).trans (u4 _ (by omega))⟩)) ((hF1 54 rfl).trans ((hF 54 rfl).trans h54)) (fun q hq => by rw [hA1]; show ∃ t, t ≤ c ∧ A' 58 q = nI t; rw [hS 58 rfl]; exact h58 q hq))
        rw [hA1, asN (by omega)]
        exact hS (39 + t) (row8 (by omega) (by decide))
    · refine And.intro (fun g => ?_) (fun g => ?_)
      · have g : nI (PR b f (uN v) 0 0 0).2.1 < 0 := g
        exact absurd (nI_pos' (by omega)) (fa_of_lt g).2.1
      · have hX4 := hK4 (sm_w hS rfl) (hS 58 rfl) (KV_cg hKV (fun t ht => hS (39 + t) (row8 (by omega) (by decide)))) (fsm_w hF rfl) (hF 54 rfl)
        refine cQ_ch (upd (mA 1) 4 0) (c' := c) h ?_ hR (sm_w hS rfl) (fsm_tr (fsm_w hF rfl) (fsm_fset (q := 15) rfl)) hX4.1 (by rw [hS 9 rfl]; exact hR.2.2.2.2.2.2.2.1) hX4.2
        unfold qtext
        rw [hbb, eft, exv]
        exact cif_t' gx (cif_f' hno rfl)
