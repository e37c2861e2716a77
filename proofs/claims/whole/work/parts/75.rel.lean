/-! ===== the class's calls: what it is to be the reference ===== -/
def SCR : List Nat := [13, 14, 17, 18, 39, 40, 41, 42, 43, 44, 45, 46, 48, 49, 51, 52, 54, 55, 56, 57, 58, 60, 61, 62, 63, 64, 77, 78, 79, 80, 81]
def FSC : List Nat := [50, 51, 52, 53, 54, 60, 61, 62, 63, 71, 72, 73, 80, 81, 82]
def CHL : List Nat := [2, 3, 4, 5, 6, 7, 8, 9, 10, 12, 16, 13, 14, 17, 18, 39, 40, 41, 42, 43, 44, 45, 46, 48, 49, 51, 52, 54, 55, 56, 57, 58, 60, 61, 62, 63, 64, 77, 78, 79, 80, 81]
def CFL : List Nat := [11, 12, 13, 14, 15, 16, 20, 21, 50, 51, 52, 53, 54, 60, 61, 62, 63, 71, 72, 73, 80, 81, 82]
def Rel (mA : XA) (mF : Nat → Int32) (A : XA) (F : Nat → Int32) : Prop := CR (mA 1) (adn CP1 A) F ∧ (mF 2 = 0 ∨ CR (mA 2) (adn CP19 A) (fdn KF F)) ∧ F 1 = mF 2 ∧ (∀ j, 1 ≤ j → j ≤ 5 → A 82 j = mA 3 j) ∧ (∀ h, h < 4 → A 66 h = mA 15 h ∧ A 67 h = mA 16 h) ∧ (∀ h i, h < 4 → i < 40 → A (69 + h) i = mA 17 (40 * h + i)) ∧ (A 74 = mA 14 ∧ F 70 = mF 24) ∧ sb_Fit (A 9) ∧ sb_Fit (A 27)
def Aux (D : Nat → Int32) (A : XA) (F : Nat → Int32) (c : Nat) : Prop := KV (fun i => A (39 + i)) D (D 1).toNatClampNeg (D 2).toNatClampNeg ∧ F 54 = nI c ∧ (∀ q, q < 1024 → ∃ t, t ≤ c ∧ A 58 q = nI t) ∧ (D 2).toNatClampNeg ≤ 8
def CI (mA : XA) (mF : Nat → Int32) (n k : Nat) : Prop := DI (mA 1) n k ∧ TXO (mA 1) 0 ∧ TXO (mA 1) 1 ∧ SI mA ∧ bd (mF 24) 41 ∧ (mF 2 = 0 ∨ ∃ n' k', DI (mA 2) n' k' ∧ TXO (mA 2) 0 ∧ TXO (mA 2) 1)
def cQ (q : XR) (c : Nat) (post : Option Value → XW → Prop) : Prop := ∀ s t u A' F' c', c' ≤ c + 600 → Rel q.2.1 q.2.2 A' F' → Aux (q.2.1 1) A' F' c' → post (some (.int q.1)) (CW s t u A' F')
theorem ctx {mA : XA} {mF : Nat → Int32} {A : XA} {F : Nat → Int32} {c n k : Nat} (hC : CI mA mF n k) (hR : Rel mA mF A F) (hX : Aux (mA 1) A F c) : mA 1 1 = nI n ∧ 2 ≤ n ∧ n ≤ 12 ∧ mA 1 2 = nI k ∧ k ≤ 8 ∧ F 11 = nI n ∧ F 12 = nI k ∧ (∀ i, i < k → A 2 i = mA 1 (8 + 8 * i + 0) ∧ A 3 i = mA 1 (8 + 8 * i + 1) ∧ A 4 i = mA 1 (8 + 8 * i + 2) ∧ A 6 i = mA 1 (8 + 8 * i + 3) ∧ A 7 i = mA 1 (8 + 8 * i + 4) ∧ A 5 i = mA 1 (8 + 8 * i + 5) ∧ A 8 i = mA 1 (8 + 8 * i + 6)) ∧ KV (fun i => A (39 + i)) (mA 1) n k ∧ F 54 = nI c ∧ (∀ q, q < 1024 → ∃ t, t ≤ c ∧ A 58 q = nI t) := by
  obtain ⟨hn, hn2, hn12, hk, hk8, hSG, _⟩ := hC.1
  have hnN : (mA 1 1).toNatClampNeg = n := by rw [hn, cl (by omega)]
  have hkN : (mA 1 2).toNatClampNeg = k := by rw [hk, cl (by omega)]
  have hKV := hX.1
  rw [hnN, hkN] at hKV
  exact ⟨hn, hn2, hn12, hk, hk8, hR.1.1.trans hn, hR.1.2.1.trans hk, fun i hi => hR.1.2.2.2.2.2.2.1 i (by rw [hkN]; exact hi), hKV, hX.2.1, hX.2.2.1⟩
theorem Aux_i {D : Nat → Int32} {A : XA} {F : Nat → Int32} {c n k : Nat} (hn : D 1 = nI n) (hk : D 2 = nI k) (hn12 : n ≤ 12) (hk8 : k ≤ 8) (hK : KV (fun i => A (39 + i)) D n k) (h54 : F 54 = nI c) (h58 : ∀ q, q < 1024 → ∃ t, t ≤ c ∧ A 58 q = nI t) : Aux D A F c := by
  unfold Aux
  rw [hn, hk, cl (by omega), cl (by omega)]
  exact ⟨hK, h54, h58, hk8⟩
theorem CRf {D : Nat → Int32} {A : XA} {F F' : Nat → Int32} (h : CR D A F) (h11 : F' 11 = F 11) (h12 : F' 12 = F 12) (h13 : F' 13 = F 13) (h14 : F' 14 = F 14) (h15 : F' 15 = F 15) (h16 : F' 16 = F 16) (h20 : F' 20 = F 20) (h21 : F' 21 = F 21) : CR D A F' := by
  unfold CR at h ⊢
  rw [h11, h12, h13, h14, h15, h16, h20, h21]
  exact h
theorem h4' {h : Nat} (hh : h < 4) : h = 0 ∨ h = 1 ∨ h = 2 ∨ h = 3 := by omega
/-- scratch changes nothing -/
theorem Rel_scr {mA : XA} {mF : Nat → Int32} {A A' : XA} {F F' : Nat → Int32} (h : Rel mA mF A F) (hS : sm SCR A' A) (hF : fsm FSC F' F) : Rel mA mF A' F' := by
  obtain ⟨h1, h2, h3, h4, h5, h6, h7, h8, h9⟩ := h
  refine ⟨CRf (CRsm (CP := CP1) h1 hS (by decide)) (hF 11 rfl) (hF 12 rfl) (hF 13 rfl) (hF 14 rfl) (hF 15 rfl) (hF 16 rfl) (hF 20 rfl) (hF 21 rfl), h2.imp id (fun q => CRf (F := fdn KF F) (CRsm (CP := CP19) q hS (by decide)) (hF 31 rfl) (hF 32 rfl) (hF 33 rfl) (hF 34 rfl) (hF 35 rfl) (hF 36 rfl) (hF 40 rfl) (hF 41 rfl)), (hF 1 rfl).trans h3, fun j a b => by rw [hS 82 rfl]; exact h4 j a b, fun x hx => by rw [hS 66 rfl, hS 67 rfl]; exact h5 x hx, fun x i hx hi => ?_, ⟨(hS 74 rfl).trans h7.1, (hF 70 rfl).trans h7.2⟩, by rw [hS 9 rfl]; exact h8, by rw [hS 27 rfl]; exact h9⟩
  rw [hS (69 + x) (by rcases h4' hx with rfl | rfl | rfl | rfl <;> rfl)]
  exact h6 x i hx hi
/-- the choir changes -/
theorem Rel_ch {mA : XA} {mF : Nat → Int32} {A A' : XA} {F F' D : Nat → Int32} (h : Rel mA mF A F) (hS : sm CHL A' A) (hF : fsm CFL F' F) (hD : CR D (adn CP1 A') F') (hb : sb_Fit (A' 9)) : Rel (aset mA 1 D) mF A' F' := by
  obtain ⟨h1, h2, h3, h4, h5, h6, h7, h8, h9⟩ := h
  refine ⟨hD, h2.imp id (fun q => CRf (F := fdn KF F) (CRsm (CP := CP19) q hS (by decide)) (hF 31 rfl) (hF 32 rfl) (hF 33 rfl) (hF 34 rfl) (hF 35 rfl) (hF 36 rfl) (hF 40 rfl) (hF 41 rfl)), (hF 1 rfl).trans h3, fun j a b => by rw [hS 82 rfl]; exact h4 j a b, fun x hx => by rw [hS 66 rfl, hS 67 rfl]; exact h5 x hx, fun x i hx hi => ?_, ⟨(hS 74 rfl).trans h7.1, (hF 70 rfl).trans h7.2⟩, hb, by rw [hS 27 rfl]; exact h9⟩
  rw [hS (69 + x) (by rcases h4' hx with rfl | rfl | rfl | rfl <;> rfl)]
  exact h6 x i hx hi
/-- an error is told -/
theorem Rel_er {mA : XA} {mF : Nat → Int32} {A : XA} {F : Nat → Int32} (h : Rel mA mF A F) {e : Nat} (h1 : 1 ≤ e) (h5 : e ≤ 5) : Rel (er mA e) mF (aset A 82 (upd (A 82) e (A 82 e + 1))) F := by
  obtain ⟨g1, g2, g3, g4, g5, g6, g7, g8, g9⟩ := h
  refine ⟨g1, g2, g3, fun j a b => ?_, g5, fun x i hx hi => ?_, g7, g8, g9⟩
  · show upd (A 82) e (A 82 e + 1) j = upd (mA 3) e (mA 3 e + 1) j
    by_cases q : j = e
    · rw [q, pk_us, pk_us, g4 e h1 h5]
    · rw [pk_un q, pk_un q]
      exact g4 j a b
  · rw [asN (by omega)]
    exact g6 x i hx hi
theorem Aux_82 {D : Nat → Int32} {A : XA} {F f : Nat → Int32} {c : Nat} (h : Aux D A F c) : Aux D (aset A 82 f) F c := ⟨KV_cg h.1 (fun t ht => asN (by have := h.2.2.2; omega)), h.2.1, h.2.2.1, h.2.2.2⟩
theorem cQ_e {q : XR} {c : Nat} {post : Option Value → XW → Prop} {mA : XA} {mF : Nat → Int32} {s t u : Bool} {A : XA} {F : Nat → Int32} {e c' : Nat} (h : cQ q c post) (hq : q = eR e mA mF) (hR : Rel mA mF A F) (hX : Aux (mA 1) A F c') (h1 : 1 ≤ e := by decide) (h5 : e ≤ 5 := by decide) (hc : c' ≤ c + 600 := by omega) : post (some (.int (lo e))) (CW s t u (aset A 82 (upd (A 82) e (A 82 e + 1))) F) := by
  subst hq
  exact h s t u _ F c' hc (Rel_er hR h1 h5) (Aux_82 hX)
theorem cQ_s {q : XR} {c : Nat} {post : Option Value → XW → Prop} {mA : XA} {mF : Nat → Int32} {s t u : Bool} {A : XA} {F : Nat → Int32} {c' : Nat} {v : Int32} (h : cQ q c post) (hq : q = (v, mA, mF)) (hR : Rel mA mF A F) (hX : Aux (mA 1) A F c') (hc : c' ≤ c + 600 := by omega) : post (some (.int v)) (CW s t u A F) := by
  subst hq
  exact h s t u A F c' hc hR hX
theorem KV_all {K : Nat → Nat → Int32} {D : Nat → Int32} {n k : Nat} (h : ∀ t x, t < 8 → x < 144 → K t x = -1) (hn : n ≤ 12) (hk : k ≤ 8) : KV K D n k := fun i l s hi hl hs => Or.inl (h i _ (by omega) (by omega))
theorem KV_dcg {K : Nat → Nat → Int32} {D D' : Nat → Int32} {n k : Nat} (h : KV K D n k) (hD : ∀ j, 72 ≤ j → D' j = D j) (h1 : D' 1 = D 1) (hs : ∀ i, i < k → D' (8 + 8 * i + 0) = D (8 + 8 * i + 0) ∧ D' (8 + 8 * i + 1) = D (8 + 8 * i + 1)) : KV K D' n k := fun i l s hi hl ht => by
  rw [nxt_dcg hD h1 (hs i hi).1 (hs i hi).2]
  exact h i l s hi hl ht
/-- only the singers, the bar and z change -/
theorem CRsg {D D' : Nat → Int32} {A A' : XA} {F F' : Nat → Int32} (h : CR D A F) (hD : ∀ j, 72 ≤ j → D' j = D j) (h1 : D' 1 = D 1) (h2 : D' 2 = D 2) (h4 : D' 4 = D 4) (h5 : D' 5 = D 5) (f13 : F' 13 = D' 0) (f14 : F' 14 = D' 3) (f11 : F' 11 = F 11) (f12 : F' 12 = F 12) (f15 : F' 15 = F 15) (f16 : F' 16 = F 16) (f20 : F' 20 = F 20) (f21 : F' 21 = F 21) (a8 : A' 8 = A 8) (a9 : A' 9 = A 9) (a11 : A' 11 = A 11) (a15 : A' 15 = A 15) (hs : ∀ i, i < (D 2).toNatClampNeg → A' 1 i = D' (8 + 8 * i + 0) ∧ A' 2 i = D' (8 + 8 * i + 1) ∧ A' 3 i = D' (8 + 8 * i + 2) ∧ A' 5 i = D' (8 + 8 * i + 3) ∧ A' 6 i = D' (8 + 8 * i + 4) ∧ A' 4 i = D' (8 + 8 * i + 5) ∧ A' 7 i = D' (8 + 8 * i + 6)) : CR D' A' F' := by
  have ut : ∀ v, tps D' v = tps D v := fun v => by
    unfold tps
    have e : (fun j => D' (96 + 50 * v + j)) = fun j => D (96 + 50 * v + j) := funext fun j => hD _ (by omega)
    rw [e, hD (72 + v) (by omega)]
  obtain ⟨g1, g2, g3, g4, g5, g6, g7, g8, g9, g10, g11⟩ := h
  refine ⟨by rw [f11, h1]; exact g1, by rw [f12, h2]; exact g2, f13, f14, by rw [f15, h4]; exact g5, by rw [f16, h5]; exact g6, by rw [h2]; exact hs, fun j hj => ?_, fun j hj => ?_, by rw [a11, f20, ut]; exact g10, by rw [a15, f21, ut]; exact g11⟩
  · rw [h4] at hj
    rw [a8, hD _ (by omega)]
    exact g8 j hj
  · rw [h5] at hj
    rw [a9, hD _ (by omega)]
    exact g9 j hj
def sX9_fail : XS := fun as w post => ∃ (s t u : Bool) (A : XA) (F : Nat → Int32) (e : Nat), as = [.ref 0, .int (nI e)] ∧ w = CW s t u A F ∧ 1 ≤ e ∧ e ≤ 5 ∧ post (some (.int (lo e))) (CW s t u (aset A 82 (upd (A 82) e (A 82 e + 1))) F)
theorem cwset82 {s t u : Bool} {A : XA} {F f f' : Nat → Int32} (h : f = f') : List.set (CW s t u A F) 82 (.inl (0, 6, .inl f)) = CW s t u (aset A 82 f') F := by
  subst h
  rfl
set_option maxRecDepth 10000 in
set_option maxHeartbeats 1000000 in
theorem mX9_fail (d : Nat) (hd : 0 ≤ d) : xCT d yX9_fail cX9_fail 2 (some .int) sX9_fail := by
  refine xmet0 (tb := tX9_fail) (fl := fX9) (kc := nX9) (gs := g0) (cl := xlk []) 400 (by decide) tX9_fail_ok fX9_ok nX9_ok g0_ok xg_nil ?_
  rintro L xs as w Qp ⟨s, t, u, A, F, e, rfl, rfl, h1, h5, h⟩
  refine ⟨Nat.le_of_ble_eq_true rfl, ?_⟩
  have i1 : vp_in (nI e) 6 := vp_in_nI (by omega) (by decide)
  refine And.intro i1 (And.intro i1 ?_)
  have ee : upd (A 82) (nI e).toNatClampNeg (A 82 (nI e).toNatClampNeg + 1) = upd (A 82) e (A 82 e + 1) := by rw [cl (by omega)]
  rw [← cwset82 ee] at h
  exact h
theorem cQ_ch {q : XR} {c : Nat} {post : Option Value → XW → Prop} {mA : XA} {mF : Nat → Int32} {s t u : Bool} {A A' : XA} {F F' : Nat → Int32} {c' : Nat} {v : Int32} (D : Nat → Int32) (h : cQ q c post) (hq : q = (v, aset mA 1 D, mF)) (hR : Rel mA mF A F) (hS : sm CHL A' A) (hF : fsm CFL F' F) (hD : CR D (adn CP1 A') F') (hb : sb_Fit (A' 9)) (hX : Aux D A' F' c') (hc : c' ≤ c + 600 := by omega) : post (some (.int v)) (CW s t u A' F') := by
  subst hq
  exact h s t u A' F' c' hc (Rel_ch hR hS hF hD hb) hX
