/-! ===== the class as one world: steps, runs, rounds, all states ===== -/
def fsm (l : List Nat) (F' F : Nat → Int32) : Prop := ∀ q, l.contains q = false → F' q = F q
theorem fsm_rf {l : List Nat} {F : Nat → Int32} : fsm l F F := fun _ _ => rfl
theorem fsm_tr {l : List Nat} {F F1 F2 : Nat → Int32} (h1 : fsm l F1 F) (h2 : fsm l F2 F1) : fsm l F2 F := fun q hq => (h2 q hq).trans (h1 q hq)
theorem fsm_w {l l' : List Nat} {F F' : Nat → Int32} (h : fsm l F' F) (hl : l.all (fun x => l'.contains x) = true) : fsm l' F' F := by
  intro p hp
  apply h p
  cases hc : l.contains p with
  | false => rfl
  | true =>
    have h1 := List.all_eq_true.mp hl p (by simpa using hc)
    rw [h1] at hp
    cases hp
theorem fsm_fset {F : Nat → Int32} {q : Nat} {x : Int32} {l : List Nat} (hq : l.contains q = true) : fsm l (fset F q x) F := by
  intro p hp
  refine fsN (fun e => ?_)
  rw [e, hq] at hp
  cases hp
theorem fsm_up {l : List Nat} {fm : List (Nat × Nat)} {F F2 : Nat → Int32} (hf : fck fm = true) (h : fsm l F2 (fdn fm F)) : fsm (l.map (fun a => (flk fm a).getD 0)) (fpu fm F2 F) F := by
  intro q hq
  unfold fpu
  cases hr : rlk fm q with
  | none => rfl
  | some a =>
    have hmem := rlk_mem hr
    have h1 : (match flk fm a with
      | some b => Nat.beq b q
      | none => false) = true := List.all_eq_true.mp hf (a, q) hmem
    cases hh : flk fm a with
    | none => rw [hh] at h1; cases h1
    | some b =>
      rw [hh] at h1
      have eb : b = q := Nat.eq_of_beq_eq_true h1
      show F2 a = F q
      rw [h a ?_]
      · show F ((flk fm a).getD 0) = F q
        rw [hh]
        show F b = F q
        rw [eb]
      · cases hc : l.contains a with
        | false => rfl
        | true =>
          have h3 : a ∈ l := by simpa using hc
          have h4 : q ∈ l.map (fun a => (flk fm a).getD 0) := List.mem_map.mpr ⟨a, h3, by rw [hh]; exact eb⟩
          have h5 : (l.map (fun a => (flk fm a).getD 0)).contains q = true := by simpa using h4
          rw [h5] at hq
          cases hq
def FP37 : List Nat := [37, 38, 39, 40, 41, 42, 43, 44, 45, 46]
theorem ckF_W {s t u : Bool} : cq (CWD s t u) STxD FP37 [] = true := by
  cases s <;> cases t <;> cases u <;> decide +kernel
def sX7_forget_W : XS := fun as w post => ∃ (s t u : Bool) (A : XA) (F : Nat → Int32) (i : Nat), as = [.ref 37, .int (nI i)] ∧ w = CW s t u A F ∧ i < 8 ∧ ∀ A', sm [39, 40, 41, 42, 43, 44, 45, 46] A' A → (∀ t, t < 8 → t ≠ i → A' (39 + t) = A (39 + t)) → (∀ x, x < 144 → A' (39 + i) x = -1) → post none (CW s t u A' F)
set_option maxRecDepth 10000 in
set_option maxHeartbeats 1000000 in
theorem mX7_forget_W (d : Nat) (hd : 1 ≤ d) : xCT d yX7_forget cX7_forget 2 none sX7_forget_W := by
  refine xCT_in (mX7_forget d hd) ?_
  rintro as w post ⟨s, t, u, A, F, i, rfl, rfl, hi, h⟩
  refine ⟨FP37, [.ref 0, .int (nI i)], STx (adn FP37 A) (fdn [] F), rfl, cq_dn (ckF_W (s := s) (t := t) (u := u)) A F, rfl, fun t => adn FP37 A (2 + t), i, rfl, rfl, hi, ?_⟩
  refine cq_a (A := A) (F := F) (A' := fgtA (adn FP37 A) i) (Dc := STxD) (ckF_W (s := s) (t := t) (u := u)) rfl ?_
  refine h (apu FP37 (fgtA (adn FP37 A) i) A) (sm_up (ps := FP37) (A := A) (fgtA_sm hi)) (fun t ht hne => ?_) (fun x hx => ?_)
  · have e := fgtA_ne (A := adn FP37 A) (i := i) hne
    rcases h8 ht with rfl | rfl | rfl | rfl | rfl | rfl | rfl | rfl <;> exact e
  · have e := fgtA_eq (A := adn FP37 A) (i := i) hx
    rcases h8 hi with rfl | rfl | rfl | rfl | rfl | rfl | rfl | rfl <;> exact e
/-- steps with other rows -/
def kA (A : XA) (K : Nat → Nat → Int32) : XA := fun p => bif Nat.ble 2 p && Nat.ble p 9 then K (p - 2) else A p
theorem kA_sm {A : XA} {K : Nat → Nat → Int32} : sm [2, 3, 4, 5, 6, 7, 8, 9] (kA A K) A := by
  intro p hp
  unfold kA
  cases hb : (Nat.ble 2 p && Nat.ble p 9) with
  | false => rfl
  | true =>
    obtain ⟨h1, h2⟩ := bnd hb
    have h1 := Nat.le_of_ble_eq_true h1
    have h2 := Nat.le_of_ble_eq_true h2
    have : p = 2 ∨ p = 3 ∨ p = 4 ∨ p = 5 ∨ p = 6 ∨ p = 7 ∨ p = 8 ∨ p = 9 := by omega
    rcases this with rfl | rfl | rfl | rfl | rfl | rfl | rfl | rfl <;> cases hp
def sX7_forgetAll_W : XS := fun as w post => ∃ (s t u : Bool) (A : XA) (F : Nat → Int32), as = [.ref 37] ∧ w = CW s t u A F ∧ ∀ A', sm [39, 40, 41, 42, 43, 44, 45, 46] A' A → (∀ t x, t < 8 → x < 144 → A' (39 + t) x = -1) → post none (CW s t u A' F)
set_option maxRecDepth 10000 in
set_option maxHeartbeats 1000000 in
theorem mX7_forgetAll_W (d : Nat) (hd : 2 ≤ d) : xCT d yX7_forgetAll cX7_forgetAll 2 none sX7_forgetAll_W := by
  refine xCT_in (mX7_forgetAll d hd) ?_
  rintro as w post ⟨s, t, u, A, F, rfl, rfl, h⟩
  refine ⟨FP37, [.ref 0], STx (adn FP37 A) (fdn [] F), rfl, cq_dn (ckF_W (s := s) (t := t) (u := u)) A F, rfl, fun t => adn FP37 A (2 + t), rfl, rfl, fun K' hK => ?_⟩
  refine cq_a (A := A) (F := F) (A' := kA (adn FP37 A) K') (Dc := STxD) (ckF_W (s := s) (t := t) (u := u)) rfl ?_
  refine h (apu FP37 (kA (adn FP37 A) K') A) (sm_up (ps := FP37) (A := A) kA_sm) (fun t x ht hx => ?_)
  have e := hK t x ht hx
  rcases h8 ht with rfl | rfl | rfl | rfl | rfl | rfl | rfl | rfl <;> exact e
def rp (s : Bool) : Nat := bif s then 49 else 48
def rq (t : Bool) : Nat := bif t then 52 else 51
def RUND : List DC := [.inr (.inr (5, [(0, 1), (0, 2)])), .inl (0, 8), .inl (0, 8), .inl (0, 8)]
def SPr (s : Bool) : List Nat := [47, bif s then 49 else 48, bif s then 48 else 49, 4]
def SPc (t : Bool) : List Nat := [50, bif t then 52 else 51, bif t then 51 else 52, 4]
theorem ckSr {s t u : Bool} : cq (CWD s t u) RUND (SPr s) [] = true := by
  cases s <;> cases t <;> cases u <;> decide +kernel
theorem ckSc {s t u : Bool} : cq (CWD s t u) RUND (SPc t) [] = true := by
  cases s <;> cases t <;> cases u <;> decide +kernel
def sX5_startFrom_Wr : XS := fun as w post => ∃ (s t u : Bool) (A : XA) (F : Nat → Int32), as = [.ref 47, .ref 4] ∧ w = CW s t u A F ∧ ∀ A', A' = aset A (rp s) (cpU (A 4) (A (rp s)) 8) → post none (CW s t u A' F)
set_option maxRecDepth 10000 in
set_option maxHeartbeats 1000000 in
theorem mX5_startFrom_Wr (d : Nat) (hd : 1 ≤ d) : xCT d yX5_startFrom cX5_startFrom 2 none sX5_startFrom_Wr := by
  refine xCT_in (mX5_startFrom d hd) ?_
  rintro as w post ⟨s, t, u, A, F, rfl, rfl, h⟩
  have e1 : apu (SPr s) (aset (adn (SPr s) A) 1 (cpU (A 4) (A (rp s)) 8)) A = aset A (rp s) (cpU (A 4) (A (rp s)) 8) := by
    funext p
    by_cases q : p = rp s
    · subst q
      cases s <;> rfl
    · rw [asN q]
      unfold apu
      cases hk : plk (SPr s) p with
      | none => rfl
      | some j =>
        have hj := plk_some hk
        have hj1 : j ≠ 1 := by
          intro e
          subst e
          exact q (Option.some.inj hj).symm
        show aset (adn (SPr s) A) 1 _ j = A p
        rw [asN hj1]
        show A ((SPr s).getD j 0) = A p
        rw [List.getD_eq_getElem?_getD, hj]
        rfl
  have hw := cq_dn (ckSr (s := s) (t := t) (u := u)) A F
  have hg := fun (post : Option Value → XW → Prop) (hp : post none (CW s t u (aset A (rp s) (cpU (A 4) (A (rp s)) 8)) F)) => cq_a (A := A) (F := F) (A' := aset (adn (SPr s) A) 1 (cpU (A 4) (A (rp s)) 8)) (Dc := RUND) (r := none) (ckSr (s := s) (t := t) (u := u)) rfl (by rw [e1]; exact hp)
  cases s
  · exact ⟨SPr false, [.ref 0, .ref 3], dn (adn (SPr false) A) (fdn [] F) 0 RUND, rfl, hw, rfl, A ((SPr false).getD 1 0), A ((SPr false).getD 2 0), A 4, rfl, rfl, hg post (h _ rfl)⟩
  · exact ⟨SPr true, [.ref 0, .ref 3], dn (adn (SPr true) A) (fdn [] F) 0 RUND, rfl, hw, rfl, A ((SPr true).getD 1 0), A ((SPr true).getD 2 0), A 4, rfl, rfl, hg post (h _ rfl)⟩
def sX5_startFrom_Wc : XS := fun as w post => ∃ (s t u : Bool) (A : XA) (F : Nat → Int32), as = [.ref 50, .ref 4] ∧ w = CW s t u A F ∧ ∀ A', A' = aset A (rq t) (cpU (A 4) (A (rq t)) 8) → post none (CW s t u A' F)
set_option maxRecDepth 10000 in
set_option maxHeartbeats 1000000 in
theorem mX5_startFrom_Wc (d : Nat) (hd : 1 ≤ d) : xCT d yX5_startFrom cX5_startFrom 2 none sX5_startFrom_Wc := by
  refine xCT_in (mX5_startFrom d hd) ?_
  rintro as w post ⟨s, t, u, A, F, rfl, rfl, h⟩
  have e1 : apu (SPc t) (aset (adn (SPc t) A) 1 (cpU (A 4) (A (rq t)) 8)) A = aset A (rq t) (cpU (A 4) (A (rq t)) 8) := by
    funext p
    by_cases q : p = rq t
    · subst q
      cases t <;> rfl
    · rw [asN q]
      unfold apu
      cases hk : plk (SPc t) p with
      | none => rfl
      | some j =>
        have hj := plk_some hk
        have hj1 : j ≠ 1 := by
          intro e
          subst e
          exact q (Option.some.inj hj).symm
        show aset (adn (SPc t) A) 1 _ j = A p
        rw [asN hj1]
        show A ((SPc t).getD j 0) = A p
        rw [List.getD_eq_getElem?_getD, hj]
        rfl
  have hw := cq_dn (ckSc (s := s) (t := t) (u := u)) A F
  have hg := fun (post : Option Value → XW → Prop) (hp : post none (CW s t u (aset A (rq t) (cpU (A 4) (A (rq t)) 8)) F)) => cq_a (A := A) (F := F) (A' := aset (adn (SPc t) A) 1 (cpU (A 4) (A (rq t)) 8)) (Dc := RUND) (r := none) (ckSc (s := s) (t := t) (u := u)) rfl (by rw [e1]; exact hp)
  cases t
  · exact ⟨SPc false, [.ref 0, .ref 3], dn (adn (SPc false) A) (fdn [] F) 0 RUND, rfl, hw, rfl, A ((SPc false).getD 1 0), A ((SPc false).getD 2 0), A 4, rfl, rfl, hg post (h _ rfl)⟩
  · exact ⟨SPc true, [.ref 0, .ref 3], dn (adn (SPc true) A) (fdn [] F) 0 RUND, rfl, hw, rfl, A ((SPc true).getD 1 0), A ((SPc true).getD 2 0), A 4, rfl, rfl, hg post (h _ rfl)⟩
def GPr : List Nat := [47, 48, 49, 37, 38, 39, 40, 41, 42, 43, 44, 45, 46, 1, 2, 3, 4, 5, 6, 7, 8, 9, 10, 11, 12, 13, 14, 15, 16, 17, 18]
theorem ckGWr {s t u : Bool} : cq (CWD s t u) (GOD s) GPr CF = true := by
  cases s <;> cases t <;> cases u <;> decide +kernel
theorem dgGWr {s t u s' : Bool} : dag GPr 0 (CWD s t u) (CWD s' t u) = true := by
  cases s <;> cases t <;> cases u <;> cases s' <;> decide +kernel
def sX5_goOn_Wr : XS := fun as w post => ∃ (s t u : Bool) (A : XA) (F : Nat → Int32) (D : Nat → Int32) (n k m : Nat), as = [.ref 47, .ref 1, .ref 37, .int (nI m)] ∧ w = CW s t u A F ∧ m < 2 ^ 31 ∧ DI D n k ∧ TXO D 0 ∧ CR D (adn CP1 A) F ∧ KV (fun i => A (39 + i)) D n k ∧ (∀ i, i < k → bd (A (rp s) i) n) ∧
  ∀ s' A', sm [48, 49, 39, 40, 41, 42, 43, 44, 45, 46, 13, 14] A' A → KV (fun i => A' (39 + i)) D n k → (∀ i, i < k → A' (rp s') i = itr D k m (A (rp s)) i) → post none (CW s' t u A' F)
set_option maxRecDepth 10000 in
set_option maxHeartbeats 1000000 in
theorem mX5_goOn_Wr (d : Nat) (hd : 4 ≤ d) : xCT d yX5_goOn cX5_goOn 6 none sX5_goOn_Wr := by
  refine xCT_in (mX5_goOn d hd) ?_
  rintro as w post ⟨s, t, u, A, F, D, n, k, m, rfl, rfl, hm, hI, hT, hC, hKV, hf, h⟩
  have hk8 : k ≤ 8 := hI.2.2.2.2.1
  have er : adn GPr A (rpl s) = A (rp s) := by cases s <;> rfl
  refine ⟨GPr, [.ref 0, .ref 13, .ref 3, .int (nI m)], GO s (adn GPr A) (fdn CF F), rfl, cq_dn (ckGWr (s := s) (t := t) (u := u)) A F, rfl, s, adn GPr A, fdn CF F, D, n, k, m, rfl, rfl, hm, hI, hT, hC, KV_cg hKV (fun t ht => by rcases h8 (show t < 8 by omega) with rfl | rfl | rfl | rfl | rfl | rfl | rfl | rfl <;> rfl), by rw [er]; exact hf, fun s' A2 hA2 hK2 hr2 => ?_⟩
  refine cq_go2 (A := A) (F := F) (A' := A2) (F' := fdn CF F) (ckGWr (s := s') (t := t) (u := u)) dgGWr ?_
  rw [fpu_id fckCF]
  have er2 : apu GPr A2 A (rp s') = A2 (rpl s') := by cases s' <;> rfl
  exact h s' (apu GPr A2 A) (sm_up (ps := GPr) hA2) (KV_cg hK2 (fun t ht => by rcases h8 (show t < 8 by omega) with rfl | rfl | rfl | rfl | rfl | rfl | rfl | rfl <;> rfl)) (fun i hi => by rw [er2, hr2 i hi, er])
def GPc : List Nat := [50, 51, 52, 37, 38, 39, 40, 41, 42, 43, 44, 45, 46, 1, 2, 3, 4, 5, 6, 7, 8, 9, 10, 11, 12, 13, 14, 15, 16, 17, 18]
theorem ckGWc {s t u : Bool} : cq (CWD s t u) (GOD t) GPc CF = true := by
  cases s <;> cases t <;> cases u <;> decide +kernel
theorem dgGWc {s t u t' : Bool} : dag GPc 0 (CWD s t u) (CWD s t' u) = true := by
  cases s <;> cases t <;> cases u <;> cases t' <;> decide +kernel
def sX5_goOn_Wc : XS := fun as w post => ∃ (s t u : Bool) (A : XA) (F : Nat → Int32) (D : Nat → Int32) (n k m : Nat), as = [.ref 50, .ref 1, .ref 37, .int (nI m)] ∧ w = CW s t u A F ∧ m < 2 ^ 31 ∧ DI D n k ∧ TXO D 0 ∧ CR D (adn CP1 A) F ∧ KV (fun i => A (39 + i)) D n k ∧ (∀ i, i < k → bd (A (rq t) i) n) ∧
  ∀ t' A', sm [51, 52, 39, 40, 41, 42, 43, 44, 45, 46, 13, 14] A' A → KV (fun i => A' (39 + i)) D n k → (∀ i, i < k → A' (rq t') i = itr D k m (A (rq t)) i) → post none (CW s t' u A' F)
set_option maxRecDepth 10000 in
set_option maxHeartbeats 1000000 in
theorem mX5_goOn_Wc (d : Nat) (hd : 4 ≤ d) : xCT d yX5_goOn cX5_goOn 6 none sX5_goOn_Wc := by
  refine xCT_in (mX5_goOn d hd) ?_
  rintro as w post ⟨s, t, u, A, F, D, n, k, m, rfl, rfl, hm, hI, hT, hC, hKV, hf, h⟩
  have hk8 : k ≤ 8 := hI.2.2.2.2.1
  have er : adn GPc A (rpl t) = A (rq t) := by cases t <;> rfl
  refine ⟨GPc, [.ref 0, .ref 13, .ref 3, .int (nI m)], GO t (adn GPc A) (fdn CF F), rfl, cq_dn (ckGWc (s := s) (t := t) (u := u)) A F, rfl, t, adn GPc A, fdn CF F, D, n, k, m, rfl, rfl, hm, hI, hT, hC, KV_cg hKV (fun t ht => by rcases h8 (show t < 8 by omega) with rfl | rfl | rfl | rfl | rfl | rfl | rfl | rfl <;> rfl), by rw [er]; exact hf, fun t' A2 hA2 hK2 hr2 => ?_⟩
  refine cq_go2 (A := A) (F := F) (A' := A2) (F' := fdn CF F) (ckGWc (s := s) (t := t') (u := u)) dgGWc ?_
  rw [fpu_id fckCF]
  have er2 : apu GPc A2 A (rq t') = A2 (rpl t') := by cases t' <;> rfl
  exact h t' (apu GPc A2 A) (sm_up (ps := GPc) hA2) (KV_cg hK2 (fun t ht => by rcases h8 (show t < 8 by omega) with rfl | rfl | rfl | rfl | rfl | rfl | rfl | rfl <;> rfl)) (fun i hi => by rw [er2, hr2 i hi, er])
def UND : List DC := [.inr (.inr (5, [(0, 1), (0, 2)])), .inl (0, 8), .inl (0, 8), .inr (.inr (5, [(0, 4), (0, 5)])), .inl (0, 8), .inl (0, 8)]
def UPs (s t : Bool) : List Nat := [47, bif s then 49 else 48, bif s then 48 else 49, 50, bif t then 52 else 51, bif t then 51 else 52]
theorem ckU {s t u : Bool} : cq (CWD s t u) UND (UPs s t) [] = true := by
  cases s <;> cases t <;> cases u <;> decide +kernel
def sX5_unlike_W : XS := fun as w post => ∃ (s t u : Bool) (A : XA) (F : Nat → Int32) (k : Nat), as = [.ref 47, .ref 50, .int (nI k)] ∧ w = CW s t u A F ∧ k ≤ 8 ∧ ∀ v, v = oth (A (rp s)) (A (rq t)) k → post (some (.int v)) (CW s t u A F)
set_option maxRecDepth 10000 in
set_option maxHeartbeats 1000000 in
theorem mX5_unlike_W (d : Nat) (hd : 0 ≤ d) : xCT d yX5_unlike cX5_unlike 5 (some .int) sX5_unlike_W := by
  refine xCT_in (mX5_unlike d hd) ?_
  rintro as w post ⟨s, t, u, A, F, k, rfl, rfl, hk, h⟩
  have hw := cq_dn (ckU (s := s) (t := t) (u := u)) A F
  have hg := fun (v : Int32) (post : Option Value → XW → Prop) (hp : post (some (.int v)) (CW s t u A F)) => cq_id (A := A) (F := F) (Dc := UND) (r := some (.int v)) (ckU (s := s) (t := t) (u := u)) rfl hp
  cases s <;> cases t
  · exact ⟨UPs false false, [.ref 0, .ref 3, .int (nI k)], dn (adn (UPs false false) A) (fdn [] F) 0 UND, rfl, hw, rfl, A ((UPs false false).getD 1 0), A ((UPs false false).getD 2 0), A ((UPs false false).getD 4 0), A ((UPs false false).getD 5 0), k, rfl, rfl, hk, hg _ post (h _ rfl)⟩
  · exact ⟨UPs false true, [.ref 0, .ref 3, .int (nI k)], dn (adn (UPs false true) A) (fdn [] F) 0 UND, rfl, hw, rfl, A ((UPs false true).getD 1 0), A ((UPs false true).getD 2 0), A ((UPs false true).getD 4 0), A ((UPs false true).getD 5 0), k, rfl, rfl, hk, hg _ post (h _ rfl)⟩
  · exact ⟨UPs true false, [.ref 0, .ref 3, .int (nI k)], dn (adn (UPs true false) A) (fdn [] F) 0 UND, rfl, hw, rfl, A ((UPs true false).getD 1 0), A ((UPs true false).getD 2 0), A ((UPs true false).getD 4 0), A ((UPs true false).getD 5 0), k, rfl, rfl, hk, hg _ post (h _ rfl)⟩
  · exact ⟨UPs true true, [.ref 0, .ref 3, .int (nI k)], dn (adn (UPs true true) A) (fdn [] F) 0 UND, rfl, hw, rfl, A ((UPs true true).getD 1 0), A ((UPs true true).getD 2 0), A ((UPs true true).getD 4 0), A ((UPs true true).getD 5 0), k, rfl, rfl, hk, hg _ post (h _ rfl)⟩
