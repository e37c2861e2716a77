/-! ===== the class: rounds: the longest ===== -/
theorem cifP {α : Type} {P Q : Prop} (h : P ↔ Q) (a b : α) : cif P a b = cif Q a b := by
  by_cases q : Q
  · rw [cif_t (h.mpr q), cif_t q]
  · rw [cif_f (fun p => q (h.mp p)), cif_f q]
theorem addsV_cg {d d' : Nat → Int32} (h : ∀ j, 72 ≤ j → d' j = d j) (l s m k : Int32) : addsV d' l s m k = addsV d l s m k := by
  unfold addsV
  have e : (fun j => d' (96 + j)) = fun j => d (96 + j) := funext fun j => h _ (by omega)
  rw [e, h 72 (by omega)]
theorem nxt_dcg {d d' : Nat → Int32} (h : ∀ j, 72 ≤ j → d' j = d j) (h1 : d' 1 = d 1) {i : Nat} (hi : d' (8 + 8 * i + 0) = d (8 + 8 * i + 0)) (hm : d' (8 + 8 * i + 1) = d (8 + 8 * i + 1)) (l s : Int32) : nxt d' i l s = nxt d i l s := by
  unfold nxt vraw
  rw [h1, hi, hm, addsV_cg h]
/-- of a kind that doesn't use it, the number doesn't matter -/
theorem vraw_m {d : Nat → Int32} {kind : Int32} (h : ¬ kind = 1 ∧ ¬ kind = 4 ∧ ¬ kind = 6) (m m' l s k : Int32) : vraw d kind m l s k = vraw d kind m' l s k := by
  unfold vraw
  rw [cif_f h.1, cif_f h.1]
  by_cases q2 : kind = 2
  · rw [cif_t q2, cif_t q2]
  · rw [cif_f q2, cif_f q2]
    by_cases q3 : kind = 3
    · rw [cif_t q3, cif_t q3]
    · rw [cif_f q3, cif_f q3, cif_f h.2.1, cif_f h.2.1]
      by_cases q5 : kind = 5
      · rw [cif_t q5, cif_t q5]
      · rw [cif_f q5, cif_f q5, cif_f h.2.2, cif_f h.2.2]
theorem stp_nxt {d d' : Nat → Int32} {k : Nat} (h1 : ∀ i l s, nxt d' i l s = nxt d i l s) (h2 : ∀ i, fiN d' i = fiN d i ∧ seN d' i = seN d i) (r : Nat → Int32) : stp d' k r = stp d k r := by
  funext s
  unfold stp
  rw [h1, (h2 s).1, (h2 s).2]
theorem itr_nxt {d d' : Nat → Int32} {k : Nat} (h1 : ∀ i l s, nxt d' i l s = nxt d i l s) (h2 : ∀ i, fiN d' i = fiN d i ∧ seN d' i = seN d i) (r : Nat → Int32) : ∀ m, itr d' k m r = itr d k m r
  | 0 => rfl
  | m + 1 => by
    show stp d' k (itr d' k m r) = stp d k (itr d k m r)
    rw [itr_nxt h1 h2 r m, stp_nxt h1 h2]
theorem rd_nxt {d d' : Nat → Int32} {k : Nat} (h0 : d' 1 = d 1) (h1 : ∀ i l s, nxt d' i l s = nxt d i l s) (h2 : ∀ i, fiN d' i = fiN d i ∧ seN d' i = seN d i) (h3 : nw d' = nw d) : rdL d' k = rdL d k ∧ rdT d' k = rdT d k := by
  have e : fN d' k = fN d k := by
    funext i
    unfold fN
    rw [h0, h3, itr_nxt h1 h2]
  have e1 : rdL d' k = rdL d k := by unfold rdL; rw [e]
  exact ⟨e1, by unfold rdT; rw [e, e1]⟩
theorem md_u {d : Nat → Int32} {n s c : Nat} {j : Nat} (h0 : j ≠ 8 + 8 * s + 0) (h1 : j ≠ 8 + 8 * s + 1) : mdD d n s c j = d j := (pk_un h1).trans (pk_un h0)
theorem md_m {d : Nat → Int32} {n k s κ m : Nat} (hs : s < 8) (hm : m < n) (hk : κ < 6) (hu : ¬ (κ = 1 ∨ κ = 4)) : rdL (mdD d n s (κ * n + m)) k = rdL (mdD d n s (κ * n)) k ∧ rdT (mdD d n s (κ * n + m)) k = rdT (mdD d n s (κ * n)) k := by
  have e1 : (κ * n + m) / n = κ := by rw [Nat.mul_comm, Nat.mul_add_div (by omega), Nat.div_eq_of_lt hm, Nat.add_zero]
  have e2 : κ * n / n = κ := Nat.mul_div_cancel _ (by omega)
  have hne : ∀ j, j ≠ 8 + 8 * s + 1 → mdD d n s (κ * n + m) j = mdD d n s (κ * n) j := fun j hj => by
    unfold mdD
    rw [pk_un hj, pk_un hj, e1, e2]
  refine rd_nxt (hne 1 (by omega)) (fun i l t => ?_) (fun i => ?_) (funext fun i => hne _ (by omega))
  · by_cases q : i = s
    · subst q
      unfold nxt
      rw [hne 1 (by omega), hne (8 + 8 * i + 0) (by omega)]
      have ek : mdD d n i (κ * n) (8 + 8 * i + 0) = nI κ := by
        unfold mdD
        rw [pk_un (by omega), pk_us, e2]
      rw [ek]
      have hh : ¬ nI κ = 1 ∧ ¬ nI κ = 4 ∧ ¬ nI κ = 6 := by
        refine ⟨fun e => hu (Or.inl (nI_inj (b := 1) (by omega) (by omega) e)), fun e => hu (Or.inr (nI_inj (b := 4) (by omega) (by omega) e)), fun e => ?_⟩
        have := nI_inj (b := 6) (by omega) (by omega) e
        omega
      rw [vraw_m hh _ (mdD d n i (κ * n) (8 + 8 * i + 1))]
      unfold vraw
      rw [addsV_cg (d := mdD d n i (κ * n)) (d' := mdD d n i (κ * n + m)) (fun j hj => hne j (by omega))]
    · exact nxt_dcg (fun j hj => hne j (by omega)) (hne 1 (by omega)) (hne _ (by omega)) (hne _ (by omega)) _ _
  · unfold fiN seN
    rw [hne _ (by omega), hne _ (by omega)]
    exact ⟨rfl, rfl⟩
theorem lg_skip {d : Nat → Int32} {n k s κ : Nat} (hs : s < 8) (hn : 0 < n) (hk : κ < 6) (hu : ¬ (κ = 1 ∨ κ = 4)) (st : Int32 × Int32) : ∀ m, m < n → lgI d n k s st (κ * n + (m + 1)) = lgI d n k s st (κ * n + 1)
  | 0, _ => rfl
  | m + 1, hm => by
    have ih := lg_skip (d := d) (k := k) hs hn hk hu st m (by omega)
    obtain ⟨r1, r2⟩ := md_m (d := d) (k := k) hs hm hk hu
    show cif (¬ rdL (mdD d n s (κ * n + (m + 1))) k = 601 ∧ (lgI d n k s st (κ * n + (m + 1))).2 < lgN d n k s (κ * n + (m + 1))) (10000 * nI s + 100 * nI ((κ * n + (m + 1)) / n) + nI ((κ * n + (m + 1)) % n), lgN d n k s (κ * n + (m + 1))) (lgI d n k s st (κ * n + (m + 1))) = _
    have eN : lgN d n k s (κ * n + (m + 1)) = lgN d n k s (κ * n) := by
      unfold lgN
      rw [r1, r2]
    rw [cif_f, ih]
    rw [ih, r1, eN]
    rintro ⟨h1, h2⟩
    have e : lgI d n k s st (κ * n + 1) = cif (¬ rdL (mdD d n s (κ * n)) k = 601 ∧ (lgI d n k s st (κ * n)).2 < lgN d n k s (κ * n)) (10000 * nI s + 100 * nI (κ * n / n) + nI (κ * n % n), lgN d n k s (κ * n)) (lgI d n k s st (κ * n)) := rfl
    rw [e] at h2
    by_cases g : ¬ rdL (mdD d n s (κ * n)) k = 601 ∧ (lgI d n k s st (κ * n)).2 < lgN d n k s (κ * n)
    · rw [cif_t g] at h2
      exact (fa_of_lt h2).2.1 (Int32.le_refl _)
    · rw [cif_f g] at h2
      exact g ⟨h1, h2⟩
theorem rdT_lt {d : Nat → Int32} {k : Nat} (h : ¬ rdL d k = 601) : rdT d k < rdL d k ∧ rdL d k < 601 := by
  have hle : ∀ (p : Nat → Prop) c, lead p c ≤ c := by
    intro p c
    induction c with
    | zero => exact Nat.le_refl _
    | succ c ih =>
      by_cases q : lead p c = c ∧ p c
      · rw [show lead p (c + 1) = c + 1 from cif_t q]
        exact Nat.le_refl _
      · rw [show lead p (c + 1) = lead p c from cif_f q]
        omega
  have h1 : rdL d k ≤ 601 := hle _ _
  have h2 : rdT d k ≤ rdL d k := hle _ _
  refine ⟨?_, by omega⟩
  refine Classical.byContradiction (fun q => ?_)
  have e : rdT d k = rdL d k := by omega
  have hall := lead_all e
  have hstop : ∀ (p : Nat → Prop) c, lead p c < c → ¬ p (lead p c) := by
    intro p c
    induction c with
    | zero => exact fun h => absurd h (Nat.not_lt_zero _)
    | succ c ih =>
      intro hc
      by_cases q : lead p c = c ∧ p c
      · rw [show lead p (c + 1) = c + 1 from cif_t q] at hc
        omega
      · rw [show lead p (c + 1) = lead p c from cif_f q] at hc ⊢
        by_cases q2 : lead p c = c
        · intro hp
          rw [q2] at hp
          exact q ⟨q2, hp⟩
        · have := hle p c
          exact ih (by omega)
  exact hstop (fun i => ∀ j, j < i → ¬ fN d k j = fN d k i) 601 (show rdL d k < 601 by omega) (fun j hj => hall j hj)
/-- what the class keeps of the longest, what the reference does -/
def LR (st : Int32 × Int32) (wh lo : Int32) : Prop := st.2 = lo ∧ ((st.1 = -1 ∧ lo = 0) ∨ (st.1 = wh ∧ 0 ≤ st.1 ∧ ¬ lo = 0))
def sX4_usesNumber : XS := fun as w post => ∃ κ : Nat, as = [.int (nI κ)] ∧ κ < 6 ∧ ((κ = 1 ∨ κ = 4) → post (some (.int 1)) w) ∧ (¬ (κ = 1 ∨ κ = 4) → post (some (.int 0)) w)
set_option maxRecDepth 10000 in
set_option maxHeartbeats 1000000 in
theorem mX4_usesNumber (d : Nat) (hd : 0 ≤ d) : xCT d yX4_usesNumber cX4_usesNumber 1 (some .boolean) sX4_usesNumber := by
  refine xmet0 (tb := tX4_usesNumber) (fl := fX4) (kc := nX4) (gs := g0) (cl := xlk []) 400 (by decide) tX4_usesNumber_ok fX4_ok nX4_ok g0_ok xg_nil ?_
  rintro L xs as w Qp ⟨κ, rfl, hk, h1, h2⟩
  refine ⟨Nat.le_of_ble_eq_true rfl, ?_⟩
  refine And.intro (fun g => ?_) (fun g => ?_)
  · have g : nI κ = nI 1 := g
    exact ⟨rfl, h1 (Or.inl (nI_inj (by omega) (by omega) g))⟩
  · have g : ¬ nI κ = nI 1 := g
    refine And.intro (fun g2 => ?_) (fun g2 => ?_)
    · have g2 : ¬ nI κ = nI 4 := g2
      exact ⟨rfl, h2 (fun q => q.elim (fun e => g (by rw [e])) (fun e => g2 (by rw [e])))⟩
    · have g2 : nI κ = nI 4 := Classical.byContradiction g2
      exact ⟨rfl, h1 (Or.inr (nI_inj (by omega) (by omega) g2))⟩
def sX4_keepLonger : XS := fun as w post => ∃ (A : XA) (F : Nat → Int32) (b t : Int32), as = [.ref 0, .int b, .int t] ∧ w = RC A F ∧ (¬ b = 0 → F 53 < F 51 → post none (RC A (fset (fset F 53 (F 51)) 52 t))) ∧ (¬ (¬ b = 0 ∧ F 53 < F 51) → post none (RC A F))
set_option maxRecDepth 10000 in
set_option maxHeartbeats 1000000 in
theorem mX4_keepLonger (d : Nat) (hd : 0 ≤ d) : xCT d yX4_keepLonger cX4_keepLonger 3 none sX4_keepLonger := by
  refine xmet0 (tb := tX4_keepLonger) (fl := fX4) (kc := nX4) (gs := g0) (cl := xlk []) 400 (by decide) tX4_keepLonger_ok fX4_ok nX4_ok g0_ok xg_nil ?_
  rintro L xs as w Qp ⟨A, F, b, t, rfl, rfl, h1, h2⟩
  refine ⟨Nat.le_of_ble_eq_true rfl, ?_⟩
  refine And.intro (fun g => ?_) (fun g => ?_)
  · have g : b = 0 := g
    exact h2 (fun q => q.1 g)
  · have g : ¬ b = 0 := g
    refine And.intro (fun g2 => ?_) (fun g2 => ?_)
    · have g2 : F 51 ≤ F 53 := g2
      exact h2 (fun q => (fa_of_lt q.2).2.1 g2)
    · have g2 : ¬ F 51 ≤ F 53 := g2
      exact h1 g (fa_of_nle g2)
def STx (A : XA) (F : Nat → Int32) : XW := [.inr (7, [.ref 1]), .inl (2, 8, .inr (.inr (.inr (.inr (KT 8 2))))), .inl (0, 144, .inl (A 2)), .inl (0, 144, .inl (A 3)), .inl (0, 144, .inl (A 4)), .inl (0, 144, .inl (A 5)), .inl (0, 144, .inl (A 6)), .inl (0, 144, .inl (A 7)), .inl (0, 144, .inl (A 8)), .inl (0, 144, .inl (A 9))]
def STxD : List DC := [.inr (.inr (7, [(0, 1)])), .inr (.inl (8, 2)), .inl (0, 144), .inl (0, 144), .inl (0, 144), .inl (0, 144), .inl (0, 144), .inl (0, 144), .inl (0, 144), .inl (0, 144)]
theorem STx_dn (A : XA) (F : Nat → Int32) : STx A F = dn A F 0 STxD := rfl
/-- the rows of steps without what was known of i -/
def fgtA (A : XA) (i : Nat) : XA := fun p => bif Nat.ble p 1 then A p else fgt (fun t => A (2 + t)) i (p - 2)
theorem fgtA_lo {A : XA} {i p : Nat} (h : p ≤ 1) : fgtA A i p = A p := by
  unfold fgtA
  rw [Nat.ble_eq_true_of_le h]
  rfl
theorem fgtA_hi {A : XA} {i t : Nat} : fgtA A i (2 + t) = fgt (fun t => A (2 + t)) i t := by
  unfold fgtA
  have hb : Nat.ble (2 + t) 1 = false := by
    cases hb : Nat.ble (2 + t) 1 with
    | false => rfl
    | true => exact absurd (Nat.le_of_ble_eq_true hb) (by omega)
  rw [hb, show 2 + t - 2 = t by omega]
  rfl
theorem fgtA_ne {A : XA} {i t : Nat} (h : t ≠ i) : fgtA A i (2 + t) = A (2 + t) := by
  rw [fgtA_hi]
  exact if_neg h
theorem fgtA_eq {A : XA} {i x : Nat} (h : x < 144) : fgtA A i (2 + i) x = -1 := by
  rw [fgtA_hi]
  unfold fgt
  rw [if_pos rfl]
  exact if_pos h
theorem fgtA_sm {A : XA} {i : Nat} (hi : i < 8) : sm [2, 3, 4, 5, 6, 7, 8, 9] (fgtA A i) A := by
  intro p hp
  by_cases q : p ≤ 1
  · exact fgtA_lo q
  · have h2 : ¬ (p < 10) := by
      intro q2
      have : p = 2 ∨ p = 3 ∨ p = 4 ∨ p = 5 ∨ p = 6 ∨ p = 7 ∨ p = 8 ∨ p = 9 := by omega
      rcases this with rfl | rfl | rfl | rfl | rfl | rfl | rfl | rfl <;> cases hp
    have := fgtA_ne (A := A) (i := i) (t := p - 2) (by omega)
    rw [show 2 + (p - 2) = p by omega] at this
    exact this
def FP6 : List Nat := [6, 7, 8, 9, 10, 11, 12, 13, 14, 15]
theorem ckF_RC : cq RCD STxD FP6 [] = true := by decide +kernel
def sX7_forget_RC : XS := fun as w post => ∃ (A : XA) (F : Nat → Int32) (i : Nat), as = [.ref 6, .int (nI i)] ∧ w = RC A F ∧ i < 8 ∧ ∀ A', sm [8, 9, 10, 11, 12, 13, 14, 15] A' A → (∀ t, t < 8 → t ≠ i → A' (8 + t) = A (8 + t)) → (∀ x, x < 144 → A' (8 + i) x = -1) → post none (RC A' F)
set_option maxRecDepth 10000 in
set_option maxHeartbeats 1000000 in
theorem mX7_forget_RC (d : Nat) (hd : 1 ≤ d) : xCT d yX7_forget cX7_forget 2 none sX7_forget_RC := by
  refine xCT_in (mX7_forget d hd) ?_
  rintro as w post ⟨A, F, i, rfl, rfl, hi, h⟩
  refine ⟨FP6, [.ref 0, .int (nI i)], STx (adn FP6 A) (fdn [] F), rfl, cq_dn ckF_RC A F, rfl, fun t => adn FP6 A (2 + t), i, rfl, rfl, hi, ?_⟩
  refine cq_a (A := A) (F := F) (A' := fgtA (adn FP6 A) i) (Dc := STxD) ckF_RC rfl ?_
  refine h (apu FP6 (fgtA (adn FP6 A) i) A) (sm_up (ps := FP6) (A := A) (fgtA_sm hi)) (fun t ht hne => ?_) (fun x hx => ?_)
  · have e := fgtA_ne (A := adn FP6 A) (i := i) hne
    rcases h8 ht with rfl | rfl | rfl | rfl | rfl | rfl | rfl | rfl <;> exact e
  · have e := fgtA_eq (A := adn FP6 A) (i := i) hx
    rcases h8 hi with rfl | rfl | rfl | rfl | rfl | rfl | rfl | rfl <;> exact e
/-- a singer's rule is another -/
theorem CRk {D : Nat → Int32} {A A' : XA} {F : Nat → Int32} {s : Nat} {x y : Int32} (h : CR D A F) (hs : s < 8) (e1 : A' 1 = upd (A 1) s x) (e2 : A' 2 = upd (A 2) s y) (hS : sm [1, 2, 12, 13, 16, 17] A' A) : CR (upd (upd D (8 + 8 * s + 0) x) (8 + 8 * s + 1) y) A' F := by
  have u : ∀ j, j ≠ 8 + 8 * s + 0 → j ≠ 8 + 8 * s + 1 → upd (upd D (8 + 8 * s + 0) x) (8 + 8 * s + 1) y j = D j := fun j ha hb => (pk_un hb).trans (pk_un ha)
  have ut : ∀ v, tps (upd (upd D (8 + 8 * s + 0) x) (8 + 8 * s + 1) y) v = tps D v := fun v => by
    unfold tps
    have e : (fun j => upd (upd D (8 + 8 * s + 0) x) (8 + 8 * s + 1) y (96 + 50 * v + j)) = fun j => D (96 + 50 * v + j) := funext fun j => u _ (by omega) (by omega)
    rw [e, u (72 + v) (by omega) (by omega)]
  obtain ⟨h1, h2, h3, h4, h5, h6, h7, h8, h9, h10, h11⟩ := h
  refine ⟨by rw [u 1 (by omega) (by omega)]; exact h1, by rw [u 2 (by omega) (by omega)]; exact h2, by rw [u 0 (by omega) (by omega)]; exact h3, by rw [u 3 (by omega) (by omega)]; exact h4, by rw [u 4 (by omega) (by omega)]; exact h5, by rw [u 5 (by omega) (by omega)]; exact h6, fun i hi => ?_, fun j hj => ?_, fun j hj => ?_, ?_, ?_⟩
  · rw [u 2 (by omega) (by omega)] at hi
    obtain ⟨a0, a1, a2, a3, a4, a5, a6⟩ := h7 i hi
    rw [hS 3 rfl, hS 4 rfl, hS 5 rfl, hS 6 rfl, hS 7 rfl, e1, e2, u (8 + 8 * i + 2) (by omega) (by omega), u (8 + 8 * i + 3) (by omega) (by omega), u (8 + 8 * i + 4) (by omega) (by omega), u (8 + 8 * i + 5) (by omega) (by omega), u (8 + 8 * i + 6) (by omega) (by omega)]
    refine ⟨?_, ?_, a2, a3, a4, a5, a6⟩
    · by_cases q : i = s
      · subst q
        rw [pk_us, pk_un (by omega), pk_us]
      · rw [pk_un q, u _ (by omega) (by omega)]
        exact a0
    · by_cases q : i = s
      · subst q
        rw [pk_us, pk_us]
      · rw [pk_un q, u _ (by omega) (by omega)]
        exact a1
  · rw [u 4 (by omega) (by omega)] at hj
    rw [hS 8 rfl, u _ (by omega) (by omega)]
    exact h8 j hj
  · rw [u 5 (by omega) (by omega)] at hj
    rw [hS 9 rfl, u _ (by omega) (by omega)]
    exact h9 j hj
  · rw [hS 11 rfl, ut]
    exact h10
  · rw [hS 15 rfl, ut]
    exact h11
theorem sm_adn {CP l l2 : List Nat} {A A' : XA} (h : sm l A' A) (hl : (List.range CP.length).all (fun j => l2.contains j || !(l.contains (CP.getD j 0))) = true) (h0 : l.contains 0 = false) : sm l2 (adn CP A') (adn CP A) := by
  intro p hp
  refine h _ ?_
  by_cases q : p < CP.length
  · have h1 := List.all_eq_true.mp hl p (List.mem_range.mpr q)
    rw [hp] at h1
    cases hc : l.contains (CP.getD p 0) with
    | false => rfl
    | true => rw [hc] at h1; cases h1
  · rw [List.getD_eq_getElem?_getD, List.getElem?_eq_none_iff.mpr (by omega)]
    exact h0
theorem LR_t {st : Int32 × Int32} {wh lo t l : Int32} (h : LR st wh lo) (hl : 0 < l) (ht : 0 ≤ t) : LR (cif (st.2 < l) (t, l) st) (cif (lo < l) t wh) (cif (lo < l) l lo) := by
  obtain ⟨h1, h2⟩ := h
  rw [h1]
  by_cases g : lo < l
  · rw [cif_t g, cif_t g, cif_t g]
    exact ⟨rfl, Or.inr ⟨rfl, ht, fun e => by
      have e : l = 0 := e
      rw [e] at hl
      exact absurd hl (by decide)⟩⟩
  · rw [cif_f g, cif_f g, cif_f g]
    exact ⟨h1, h2⟩
theorem upd_id (d : Nat → Int32) (i : Nat) : upd d i (d i) = d := by
  funext j
  by_cases q : j = i
  · rw [q, pk_us]
  · rw [pk_un q]
theorem upd_upd (d : Nat → Int32) (i : Nat) (x y : Int32) : upd (upd d i x) i y = upd d i y := by
  funext j
  by_cases q : j = i
  · rw [q, pk_us, pk_us]
  · rw [pk_un q, pk_un q, pk_un q]
theorem rcset {A : XA} {F u u' v v' : Nat → Int32} (h1 : u = u') (h2 : v = v') : List.set (List.set (RC A F) 17 (.inl (0, 8, .inl u))) 18 (.inl (0, 8, .inl v)) = RC (aset (aset A 17 u') 18 v') F := by
  subst h1 h2
  rfl
def sX4_findLongest : XS := fun as w post => ∃ (A : XA) (F D : Nat → Int32) (n k c : Nat), as = [.ref 0, .ref 16, .ref 6] ∧ w = RC A F ∧ DI D n k ∧ TXO D 0 ∧ CR D (adn CP16 A) F ∧ KV (fun i => A (8 + i)) D n k ∧ F 54 = nI c ∧ c < 2 ^ 29 ∧ (∀ q, q < 1024 → ∃ t, t ≤ c ∧ A 5 q = nI t) ∧
  ∀ A' F' c', sm [1, 2, 3, 4, 5, 8, 9, 10, 11, 12, 13, 14, 15, 28, 29] A' A → KV (fun i => A' (8 + i)) D n k → c' ≤ c + 600 → F' 54 = nI c' → (∀ q, q < 1024 → ∃ t, t ≤ c' ∧ A' 5 q = nI t) → (∀ q, q < 50 ∨ 54 < q → F' q = F q) → LR (lgO D n k k) (F' 52) (F' 53) → post none (RC A' F')
set_option maxRecDepth 10000 in
set_option maxHeartbeats 1000000 in
theorem mX4_findLongest (d : Nat) (hd : 5 ≤ d) : xCT d yX4_findLongest cX4_findLongest 9 none sX4_findLongest := by
  obtain ⟨d, rfl⟩ : ∃ e, d = e + 1 := ⟨d - 1, by omega⟩
  refine xmet (tb := tX4_findLongest) (fl := fX4) (kc := nX4) (gs := g0) (cl := xlk [(78, false, 1, sX4_usesNumber), (85, true, 2, xrcv 7 (sX7_forget_RC)), (89, true, 3, xrcv 4 (sX4_comesRound)), (93, true, 3, xrcv 4 (sX4_keepLonger))]) (by decide) tX4_findLongest_ok fX4_ok nX4_ok g0_ok (xg_cons (k_X4_78 (mX4_usesNumber d (by omega))) (xg_cons (k_X4_85 (mX7_forget_RC d (by omega))) (xg_cons (k_X4_89 (mX4_comesRound d (by omega))) (xg_cons (k_X4_93 (mX4_keepLonger d (by omega))) xg_nil)))) ?_
  rintro L xs as w Qp ⟨A, F, D, n, k, c0, rfl, rfl, hI, hT, hC, hKV, hc0, hc2, h5, h⟩
  obtain ⟨hn, hn2, hn12, hk, hk8, hSG, _⟩ := id hI
  have hF11 : F 11 = nI n := hC.1.trans hn
  have hF12 : F 12 = nI k := hC.2.1.trans hk
  let cnt : Nat → Nat → Nat → XA → (Nat → Int32) → Prop := fun s κ m A' F' => ∃ c', c' ≤ c0 + (72 * s + 12 * κ + m) ∧ F' 54 = nI c' ∧ (∀ q, q < 1024 → ∃ t, t ≤ c' ∧ A' 5 q = nI t) ∧ (∀ q, q < 50 ∨ 54 < q → F' q = F q)
  have hcnt : cnt = fun s κ m A' F' => ∃ c', c' ≤ c0 + (72 * s + 12 * κ + m) ∧ F' 54 = nI c' ∧ (∀ q, q < 1024 → ∃ t, t ≤ c' ∧ A' 5 q = nI t) ∧ (∀ q, q < 50 ∨ 54 < q → F' q = F q) := rfl
  clear_value cnt
  let inn : Nat → XA → Prop := fun s A' => sm [1, 2, 3, 4, 5, 8, 9, 10, 11, 12, 13, 14, 15, 17, 18, 28, 29] A' A ∧ (∃ x y, A' 17 = upd (A 17) s x ∧ A' 18 = upd (A 18) s y) ∧ (∀ i l t, i < k → i ≠ s → l < n → t < n → A' (8 + i) (12 * l + t) = -1 ∨ A' (8 + i) (12 * l + t) = nxt D i (nI l) (nI t))
  have hinn : inn = fun s A' => sm [1, 2, 3, 4, 5, 8, 9, 10, 11, 12, 13, 14, 15, 17, 18, 28, 29] A' A ∧ (∃ x y, A' 17 = upd (A 17) s x ∧ A' 18 = upd (A 18) s y) ∧ (∀ i l t, i < k → i ≠ s → l < n → t < n → A' (8 + i) (12 * l + t) = -1 ∨ A' (8 + i) (12 * l + t) = nxt D i (nI l) (nI t)) := rfl
  clear_value inn
  refine ⟨Nat.le_of_ble_eq_true rfl, 400, xlk [(12, 4), (39, 7), (66, 9)], fun m pc ls st w => st = [] ∧ ((pc = 12 ∧ ∃ s A' F', s ≤ k ∧ m = (k - s) * 1000 ∧ ls = [(0, .ref 0), (1, .ref 16), (2, .ref 6), (3, .int (nI s))] ∧ w = RC A' F' ∧ sm [1, 2, 3, 4, 5, 8, 9, 10, 11, 12, 13, 14, 15, 28, 29] A' A ∧ KV (fun i => A' (8 + i)) D n k ∧ cnt s 0 0 A' F' ∧ LR (lgO D n k s) (F' 52) (F' 53)) ∨
    (pc = 39 ∧ ∃ s κ A' F', s < k ∧ κ ≤ 6 ∧ m = (k - s) * 1000 - 1 - κ * 100 ∧ ls = [(0, .ref 0), (1, .ref 16), (2, .ref 6), (3, .int (nI s)), (4, .int (A 17 s)), (5, .int (A 18 s)), (6, .int (nI κ))] ∧ w = RC A' F' ∧ inn s A' ∧ cnt s κ 0 A' F' ∧ LR (lgI D n k s (lgO D n k s) (κ * n)) (F' 52) (F' 53)) ∨
    (pc = 66 ∧ ∃ s κ mo v A' F', s < k ∧ κ < 6 ∧ v ≤ mo ∧ (((κ = 1 ∨ κ = 4) ∧ mo = n) ∨ (¬ (κ = 1 ∨ κ = 4) ∧ mo = 1)) ∧ m = (k - s) * 1000 - 2 - κ * 100 - v ∧ ls = [(0, .ref 0), (1, .ref 16), (2, .ref 6), (3, .int (nI s)), (4, .int (A 17 s)), (5, .int (A 18 s)), (6, .int (nI κ)), (7, .int (nI mo)), (8, .int (nI v))] ∧ w = RC A' F' ∧ inn s A' ∧ cnt s κ v A' F' ∧ LR (lgI D n k s (lgO D n k s) (κ * n + v)) (F' 52) (F' 53))), ?_, ?_⟩
  · refine ⟨(k - 0) * 1000, rfl, Or.inl ⟨rfl, 0, A, fset (fset F 53 0) 52 0, Nat.zero_le _, rfl, rfl, rfl, sm_rf, hKV, ?_, rfl, Or.inl ⟨rfl, rfl⟩⟩⟩
    rw [hcnt]
    exact ⟨c0, by omega, hc0, h5, fun q hq => (fsN (by omega)).trans (fsN (by omega))⟩
  · rintro m pc m9 ls st w hc ⟨rfl, ⟨rfl, s, A', F', hs, rfl, rfl, rfl, hS, hKV', hcn, hLR⟩ | ⟨rfl, s, κ, A', F', hs, hκ, rfl, rfl, rfl, hin, hcn, hLR⟩ | ⟨rfl, s, κ, mo, v, A', F', hs, hκ, hv, hmo, rfl, rfl, rfl, hin, hcn, hLR⟩⟩
    · have eF : F' 12 = nI k := by
        rw [hcnt] at hcn
        obtain ⟨c', q1, q2, q3, q4⟩ := hcn
        exact (q4 12 (by omega)).trans hF12
      refine And.intro (fun g => ?_) (fun g => ?_)
      · have := ge_n eF (by omega) (by omega) g
        have es : s = k := by omega
        subst es
        rw [hcnt] at hcn
        obtain ⟨c', q1, q2, q3, q4⟩ := hcn
        exact h A' F' c' hS hKV' (by omega) q2 q3 q4 hLR
      · have hlt := nge_n eF (by omega) (by omega) g
        have i0 : vp_in (nI s) 8 := vp_in_nI (by omega) (by decide)
        refine And.intro i0 (And.intro i0 ?_)
        refine ⟨(k - s) * 1000 - 1 - 0 * 100, by omega, rfl, Or.inr (Or.inl ⟨rfl, s, 0, A', F', hlt, by omega, rfl, ?_, rfl, ?_, hcn, by rw [Nat.zero_mul]; exact hLR⟩)⟩
        · rw [hS 17 rfl, hS 18 rfl, cl (by omega)]
          rfl
        · rw [hinn]
          refine ⟨sm_w hS rfl, ⟨A 17 s, A 18 s, ?_, ?_⟩, fun i l t hi _ hl ht => hKV' i l t hi hl ht⟩
          · rw [hS 17 rfl, upd_id]
          · rw [hS 18 rfl, upd_id]
    · rw [hinn] at hin
      obtain ⟨hS, ⟨x, y, ex, ey⟩, hK⟩ := hin
      have i0 : vp_in (nI s) 8 := vp_in_nI (by omega) (by decide)
      have es : (nI s).toNatClampNeg = s := cl (by omega)
      refine And.intro (fun g => ?_) (fun g => ?_)
      · have g : nI 5 < nI κ := g
        have eκ : κ = 6 := by
          refine Classical.byContradiction (fun q => ?_)
          exact (fa_of_lt g).2.1 (nI_le (by omega) (by omega))
        subst eκ
        refine And.intro i0 (And.intro i0 ?_)
        have e1 : upd (A' 17) (nI s).toNatClampNeg (A 17 s) = A 17 := by rw [es, ex, upd_upd, upd_id]
        have e2 : upd (A' 18) (nI s).toNatClampNeg (A 18 s) = A 18 := by rw [es, ey, upd_upd, upd_id]
        refine ⟨aset (aset A' 17 (A 17)) 18 (A 18), F', s, rfl, rcset e1 e2, by omega, fun A2 hS2 hK2 hK3 => ?_⟩
        refine ⟨(k - (s + 1)) * 1000, by omega, rfl, Or.inl ⟨rfl, s + 1, A2, F', hs, rfl, by rw [← nI_1 s]; rfl, rfl, ?_, ?_, ?_, ?_⟩⟩
        · intro p hp
          have hp2 : [8, 9, 10, 11, 12, 13, 14, 15].contains p = false := by
            cases hq : [8, 9, 10, 11, 12, 13, 14, 15].contains p with
            | false => rfl
            | true =>
              have h1 : p = 8 ∨ p = 9 ∨ p = 10 ∨ p = 11 ∨ p = 12 ∨ p = 13 ∨ p = 14 ∨ p = 15 := by simpa using hq
              rcases h1 with rfl | rfl | rfl | rfl | rfl | rfl | rfl | rfl <;> cases hp
          rw [hS2 p hp2]
          by_cases q8 : p = 18
          · subst q8
            rfl
          · rw [asN q8]
            by_cases q7 : p = 17
            · subst q7
              rfl
            · rw [asN q7]
              refine hS p ?_
              cases hq : [1, 2, 3, 4, 5, 8, 9, 10, 11, 12, 13, 14, 15, 17, 18, 28, 29].contains p with
              | false => rfl
              | true =>
                have h1 : p = 1 ∨ p = 2 ∨ p = 3 ∨ p = 4 ∨ p = 5 ∨ p = 8 ∨ p = 9 ∨ p = 10 ∨ p = 11 ∨ p = 12 ∨ p = 13 ∨ p = 14 ∨ p = 15 ∨ p = 17 ∨ p = 18 ∨ p = 28 ∨ p = 29 := by simpa using hq
                rcases h1 with rfl | rfl | rfl | rfl | rfl | rfl | rfl | rfl | rfl | rfl | rfl | rfl | rfl | rfl | rfl | rfl | rfl <;> first | exact absurd rfl q7 | exact absurd rfl q8 | cases hp
        · intro i l t hi hl ht
          by_cases q : i = s
          · exact Or.inl (by rw [q]; exact hK3 _ (by omega))
          · have e : A2 (8 + i) = A' (8 + i) := (hK2 i (by omega) q).trans ((asN (by omega)).trans (asN (by omega)))
            show A2 (8 + i) (12 * l + t) = -1 ∨ A2 (8 + i) (12 * l + t) = _
            rw [e]
            exact hK i l t hi q hl ht
        · rw [hcnt] at hcn ⊢
          obtain ⟨c', q1, q2, q3, q4⟩ := hcn
          refine ⟨c', by omega, q2, fun q hq => ?_, q4⟩
          rw [hS2 5 rfl]
          exact q3 q hq
        · exact hLR
      · have hκ6 : κ < 6 := by
          refine Classical.byContradiction (fun q => ?_)
          exact g (nI_lt (a := 5) (b := κ) (by omega) (by omega))
        have eF : F' 11 = nI n := by
          rw [hcnt] at hcn
          obtain ⟨c', q1, q2, q3, q4⟩ := hcn
          exact (q4 11 (by omega)).trans hF11
        have hin' : inn s A' := by rw [hinn]; exact ⟨hS, ⟨x, y, ex, ey⟩, hK⟩
        refine ⟨κ, rfl, hκ6, fun hu => ?_, fun hu => ?_⟩
        · refine br_f xc_eq1 ?_
          refine ⟨(k - s) * 1000 - 2 - κ * 100 - 0, by omega, rfl, Or.inr (Or.inr ⟨rfl, s, κ, n, 0, A', F', hs, hκ6, Nat.zero_le _, Or.inl ⟨hu, rfl⟩, rfl, ?_, rfl, hin', hcn, hLR⟩)⟩
          rw [← eF]
          rfl
        · refine br_t xc_eq0 ?_
          exact ⟨(k - s) * 1000 - 2 - κ * 100 - 0, by omega, rfl, Or.inr (Or.inr ⟨rfl, s, κ, 1, 0, A', F', hs, hκ6, Nat.zero_le _, Or.inr ⟨hu, rfl⟩, rfl, rfl, rfl, hin', hcn, hLR⟩)⟩
    · have hmo12 : mo ≤ 12 := by rcases hmo with ⟨_, e⟩ | ⟨_, e⟩ <;> omega
      refine And.intro (fun g => ?_) (fun g => ?_)
      · have := ge_n (k := mo) rfl (by omega) (by omega) g
        have ev : v = mo := by omega
        subst ev
        refine ⟨(k - s) * 1000 - 1 - (κ + 1) * 100, by omega, rfl, Or.inr (Or.inl ⟨rfl, s, κ + 1, A', F', hs, hκ, rfl, by rw [← nI_1]; rfl, rfl, hin, ?_, ?_⟩)⟩
        · rw [hcnt] at hcn ⊢
          obtain ⟨c', q1, q2, q3, q4⟩ := hcn
          exact ⟨c', by omega, q2, q3, q4⟩
        · rw [Nat.succ_mul]
          rcases hmo with ⟨hu, e⟩ | ⟨hu, e⟩
          · rw [e] at hLR
            exact hLR
          · rw [e] at hLR
            have e2 := lg_skip (d := D) (n := n) (k := k) (s := s) (κ := κ) (by omega) (by omega) hκ hu (lgO D n k s) (n - 1) (by omega)
            rw [show n - 1 + 1 = n by omega] at e2
            rw [e2]
            exact hLR
      · have hlt := nge_n (k := mo) rfl (by omega) (by omega) g
        have hvn : v < n := by rcases hmo with ⟨_, e⟩ | ⟨_, e⟩ <;> omega
        have hin0 := hin
        rw [hinn] at hin
        obtain ⟨hS, ⟨x, y, ex, ey⟩, hK⟩ := hin
        have hcn0 := hcn
        rw [hcnt] at hcn
        obtain ⟨c', q1, q2, q3, q4⟩ := hcn
        have i0 : vp_in (nI s) 8 := vp_in_nI (by omega) (by decide)
        have es : (nI s).toNatClampNeg = s := cl (by omega)
        have d1 : (κ * n + v) / n = κ := by rw [Nat.mul_comm, Nat.mul_add_div (by omega), Nat.div_eq_of_lt hvn, Nat.add_zero]
        have d2 : (κ * n + v) % n = v := by rw [Nat.mul_comm, Nat.mul_add_mod, Nat.mod_eq_of_lt hvn]
        have e1 : upd (A' 17) (nI s).toNatClampNeg (nI κ) = upd (A 17) s (nI κ) := by rw [es, ex, upd_upd]
        have e2 : upd (A' 18) (nI s).toNatClampNeg (nI v) = upd (A 18) s (nI v) := by rw [es, ey, upd_upd]
        refine And.intro i0 (And.intro i0 ?_)
        refine ⟨aset (aset A' 17 (upd (A 17) s (nI κ))) 18 (upd (A 18) s (nI v)), F', s, rfl, rcset e1 e2, by omega, fun A2 hS2 hK2 hK3 => ?_⟩
        have eD : mdD D n s (κ * n + v) = upd (upd D (8 + 8 * s + 0) (nI κ)) (8 + 8 * s + 1) (nI v) := by
          unfold mdD
          rw [d1, d2]
        have hD : DI (mdD D n s (κ * n + v)) n k := by rw [eD]; exact DIk hI hs ⟨κ, by omega, rfl⟩ ⟨v, by omega, rfl⟩
        have hTD : TXO (mdD D n s (κ * n + v)) 0 := by rw [eD]; exact TXOk hT (by omega) _ _
        have hS3 : sm [1, 2, 3, 4, 5, 8, 9, 10, 11, 12, 13, 14, 15, 17, 18, 28, 29] A2 A := sm_tr hS (sm_tr (sm_aset (q := 17) rfl) (sm_tr (sm_aset (q := 18) rfl) (sm_w hS2 rfl)))
        have e17 : A2 17 = upd (A 17) s (nI κ) := hS2 17 rfl
        have e18 : A2 18 = upd (A 18) s (nI v) := hS2 18 rfl
        have hCF : CR D (adn CP16 A) F' := by
          have := hC
          unfold CR at this ⊢
          rw [q4 11 (by omega), q4 12 (by omega), q4 13 (by omega), q4 14 (by omega), q4 15 (by omega), q4 16 (by omega), q4 20 (by omega), q4 21 (by omega)]
          exact this
        have hCD : CR (mdD D n s (κ * n + v)) (adn CP16 A2) F' := by
          rw [eD]
          exact CRk hCF (by omega) e17 e18 (sm_adn hS3 (by decide) rfl)
        have hKD : KV (fun i => A2 (8 + i)) (mdD D n s (κ * n + v)) n k := by
          intro i l t hi hl ht
          by_cases q : i = s
          · exact Or.inl (by rw [q]; exact hK3 _ (by omega))
          · have e : A2 (8 + i) = A' (8 + i) := (hK2 i (by omega) q).trans ((asN (by omega)).trans (asN (by omega)))
            show A2 (8 + i) (12 * l + t) = -1 ∨ A2 (8 + i) (12 * l + t) = _
            rw [e, nxt_dcg (d := D) (d' := mdD D n s (κ * n + v)) (fun j hj => md_u (by omega) (by omega)) (md_u (by omega) (by omega)) (md_u (by omega) (by omega)) (md_u (by omega) (by omega))]
            exact hK i l t hi q hl ht
        have eL : lgI D n k s (lgO D n k s) (κ * n + (v + 1)) = cif (¬ rdL (mdD D n s (κ * n + v)) k = 601 ∧ (lgI D n k s (lgO D n k s) (κ * n + v)).2 < lgN D n k s (κ * n + v)) (10000 * nI s + 100 * nI κ + nI v, lgN D n k s (κ * n + v)) (lgI D n k s (lgO D n k s) (κ * n + v)) := by
          show cif _ (10000 * nI s + 100 * nI ((κ * n + v) / n) + nI ((κ * n + v) % n), lgN D n k s (κ * n + v)) _ = _
          rw [d1, d2]
          rfl
        have hin3 : ∀ A3, sm [1, 2, 3, 4, 5, 8, 9, 10, 11, 12, 13, 14, 15, 28, 29] A3 A2 → KV (fun i => A3 (8 + i)) (mdD D n s (κ * n + v)) n k → inn s A3 := fun A3 hS4 hK4 => by
          rw [hinn]
          refine ⟨sm_tr hS3 (sm_w hS4 rfl), ⟨nI κ, nI v, (hS4 17 rfl).trans e17, (hS4 18 rfl).trans e18⟩, fun i l t hi hne hl ht => ?_⟩
          have h9 := hK4 i l t hi hl ht
          rw [nxt_dcg (d := D) (d' := mdD D n s (κ * n + v)) (fun j hj => md_u (by omega) (by omega)) (md_u (by omega) (by omega)) (md_u (by omega) (by omega)) (md_u (by omega) (by omega))] at h9
          exact h9
        have hcn3 : ∀ A3 F3 F4, RZ (mdD D n s (κ * n + v)) n k c' A2 F' A3 F3 → (∀ q, q < 50 ∨ 54 ≤ q → F4 q = F3 q) → cnt s κ (v + 1) A3 F4 := fun A3 F3 F4 hZ h4 => by
          rw [hcnt]
          exact ⟨c' + 1, by omega, (h4 54 (by omega)).trans hZ.2.2.1, hZ.2.2.2.1, fun q hq => (h4 q (by omega)).trans ((hZ.2.2.2.2 q (by omega) (by omega) (by omega)).trans (q4 q hq))⟩
        refine ⟨A2, F', mdD D n s (κ * n + v), n, k, c', rfl, rfl, hD, hTD, hCD, hKD, q2, by omega, fun q hq => by rw [hS2 5 rfl]; exact q3 q hq, fun h3 A3 F3 hZ h50 h51 => ?_, fun h3 A3 F3 hZ => ?_⟩
        · have e52 : F3 52 = F' 52 := hZ.2.2.2.2 52 (by omega) (by omega) (by omega)
          have e53 : F3 53 = F' 53 := hZ.2.2.2.2 53 (by omega) (by omega) (by omega)
          have h51 : F3 51 = lgN D n k s (κ * n + v) := h51
          obtain ⟨r1, r2⟩ := rdT_lt h3
          have hl0 : (0 : Int32) < lgN D n k s (κ * n + v) := by
            unfold lgN
            rw [pk_sub (by omega)]
            exact nI_lt (a := 0) (by omega) (by omega)
          have ht0 : (0 : Int32) ≤ 10000 * nI s + 100 * nI κ + nI v := by
            rw [show (10000 : Int32) = nI 10000 from rfl, show (100 : Int32) = nI 100 from rfl, pk_mul, pk_mul, nI_add, nI_add]
            exact nI_pos' (by omega)
          refine ⟨A3, F3, 1, 10000 * nI s + 100 * nI κ + nI v, rfl, rfl, fun _ g2 => ?_, fun g2 => ?_⟩
          · rw [h51, e53, ← hLR.1] at g2
            refine ⟨(k - s) * 1000 - 2 - κ * 100 - (v + 1), by omega, rfl, Or.inr (Or.inr ⟨rfl, s, κ, mo, v + 1, A3, _, hs, hκ, by omega, hmo, rfl, by rw [← nI_1 v]; rfl, rfl, hin3 A3 hZ.1 hZ.2.1, hcn3 A3 F3 _ hZ (fun q hq => (fsN (by omega)).trans (fsN (by omega))), ?_⟩)⟩
            rw [eL, cif_t ⟨h3, g2⟩]
            refine ⟨h51.symm, Or.inr ⟨rfl, ht0, fun e => ?_⟩⟩
            have e : F3 51 = 0 := e
            rw [h51] at e
            rw [e] at hl0
            exact absurd hl0 (by decide)
          · refine ⟨(k - s) * 1000 - 2 - κ * 100 - (v + 1), by omega, rfl, Or.inr (Or.inr ⟨rfl, s, κ, mo, v + 1, A3, F3, hs, hκ, by omega, hmo, rfl, by rw [← nI_1 v]; rfl, rfl, hin3 A3 hZ.1 hZ.2.1, hcn3 A3 F3 _ hZ (fun q hq => rfl), ?_⟩)⟩
            rw [eL, cif_f (fun q => g2 ⟨by decide, by rw [h51, e53, ← hLR.1]; exact q.2⟩), e52, e53]
            exact hLR
        · have e52 : F3 52 = F' 52 := hZ.2.2.2.2 52 (by omega) (by omega) (by omega)
          have e53 : F3 53 = F' 53 := hZ.2.2.2.2 53 (by omega) (by omega) (by omega)
          refine ⟨A3, F3, 0, 10000 * nI s + 100 * nI κ + nI v, rfl, rfl, fun g2 => absurd rfl g2, fun g2 => ?_⟩
          refine ⟨(k - s) * 1000 - 2 - κ * 100 - (v + 1), by omega, rfl, Or.inr (Or.inr ⟨rfl, s, κ, mo, v + 1, A3, F3, hs, hκ, by omega, hmo, rfl, by rw [← nI_1 v]; rfl, rfl, hin3 A3 hZ.1 hZ.2.1, hcn3 A3 F3 _ hZ (fun q hq => rfl), ?_⟩)⟩
          rw [eL, cif_f (fun q => q.1 h3), e52, e53]
          exact hLR
