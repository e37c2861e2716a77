/-! ===== the reference: drawn, loose, lays, findAll, findAt ===== -/
def dr1 (x : Int32) : Int32 := x * 1103515245 + 12345
def drO (x : Int32) : Int32 := (x.toUInt32 >>> ((8 : Int32).toUInt32 &&& Int32.toUInt32 31)).toInt32
theorem drO_n (x : Int32) : ∃ j : Nat, j < 2 ^ 24 ∧ drO x = nI j := by
  have h := x.toUInt32.toNat_lt
  refine ⟨x.toUInt32.toNat >>> 8, ?_, ?_⟩
  · rw [Nat.shiftRight_eq_div_pow]
    omega
  · have e : (x.toUInt32 >>> ((8 : Int32).toUInt32 &&& Int32.toUInt32 31)).toNat = x.toUInt32.toNat >>> 8 := by
      rw [UInt32.toNat_shiftRight]
      rfl
    unfold drO
    rw [← e]
    generalize x.toUInt32 >>> ((8 : Int32).toUInt32 &&& Int32.toUInt32 31) = u
    show u.toInt32 = (UInt32.ofNat u.toNat).toInt32
    rw [UInt32.ofNat_toNat]
def sX10_drawn : XS := fun as w post => ∃ (A : XA) (F : Nat → Int32), as = [.ref 0] ∧ w = LM A F ∧ post (some (.int (drO (dr1 (A 1 3))))) (LM (aset A 1 (upd (A 1) 3 (dr1 (A 1 3)))) F)
set_option maxRecDepth 10000 in
set_option maxHeartbeats 1000000 in
theorem mX10_drawn (d : Nat) (hd : 0 ≤ d) : xCT d yX10_drawn cX10_drawn 1 (some .int) sX10_drawn := by
  refine xmet0 (tb := tX10_drawn) (fl := fX10) (kc := nX10) (gs := g0) (cl := xlk []) 400 (by decide) tX10_drawn_ok fX10_ok nX10_ok g0_ok xg_nil ?_
  rintro L xs as w Qp ⟨A, F, rfl, rfl, h⟩
  refine ⟨Nat.le_of_ble_eq_true rfl, ?_⟩
  refine And.intro (vl 3 250 rfl rfl) (And.intro (vl 3 250 rfl rfl) (And.intro (vl 3 250 rfl rfl) ?_))
  have e : upd (A 1) 3 (dr1 (A 1 3)) 3 = dr1 (A 1 3) := pk_us
  show Qp (some (.int (drO (upd (A 1) 3 (dr1 (A 1 3)) 3)))) (LM (aset A 1 (upd (A 1) 3 (dr1 (A 1 3)))) F)
  rw [e]
  exact h
def rm (x y : Int32) : Int32 := x - x / y * y
theorem rm_n {a b : Nat} (ha : a < 2 ^ 31) (hb : 0 < b) (hb2 : b < 2 ^ 31) : rm (nI a) (nI b) = nI (a % b) := pk_rem ha hb hb2
theorem rm_b (x : Int32) {k : Nat} (hk : 0 < k) (hk2 : k < 2 ^ 31) : ∃ j : Nat, j < k ∧ rm (drO x) (nI k) = nI j := by
  obtain ⟨j, hj, e⟩ := drO_n x
  rw [e, rm_n (by omega) hk hk2]
  exact ⟨j % k, Nat.mod_lt _ hk, rfl⟩
/-- who sings another note, if one does -/
def sx (k : Nat) (x : Int32) : Nat := (rm (drO (dr1 x)) (nI k)).toNatClampNeg
noncomputable def lsT (d : Nat → Int32) (k : Nat) (p : Int32) (c : (Nat → Int32) × Int32) : (Nat → Int32) × Int32 :=
  (cif (rm (drO (dr1 (dr1 c.2))) 100 < p) (upd (stp d k c.1) (sx k c.2) (rm (stp d k c.1 (sx k c.2) + 1) (d 1))) (stp d k c.1), dr1 (dr1 c.2))
noncomputable def lsI (d : Nat → Int32) (k : Nat) (p : Int32) : Nat → (Nat → Int32) × Int32
  | 0 => (nw d, d 3)
  | m + 1 => lsT d k p (lsI d k p m)
noncomputable def qloose (m p : Int32) (A : XA) (F : Nat → Int32) : XR := cif ((1 ≤ m ∧ m ≤ 500) ∧ (0 ≤ p ∧ p ≤ 100)) (cif (999999 < A 1 0 + m ∨ A 1 2 = 0) (eR 3 A F) (A 1 0 + m, aset A 1 (upd (endD (upd (A 1) 3 (lsI (A 1) (A 1 2).toNatClampNeg p m.toNatClampNeg).2) (lsI (A 1) (A 1 2).toNatClampNeg p m.toNatClampNeg).1 (A 1 2).toNatClampNeg) 0 (A 1 0 + m)), F)) (eR 1 A F)
theorem nxt_cg8 {d d' : Nat → Int32} (h : ∀ j, j = 1 ∨ 8 ≤ j → d' j = d j) (i : Nat) (l s : Int32) : nxt d' i l s = nxt d i l s := by
  unfold nxt vraw addsV
  have e : (fun j => d' (96 + j)) = (fun j => d (96 + j)) := by
    funext j
    exact h _ (by omega)
  rw [h 1 (by omega), h (8 + 8 * i + 0) (by omega), h (8 + 8 * i + 1) (by omega), h 72 (by omega), e]
theorem stp_cg8 {d d' : Nat → Int32} (h : ∀ j, j = 1 ∨ 8 ≤ j → d' j = d j) (k : Nat) (r : Nat → Int32) : stp d' k r = stp d k r := by
  funext t
  unfold stp fiN seN
  rw [nxt_cg8 h, h (8 + 8 * t + 3) (by omega), h (8 + 8 * t + 4) (by omega)]
theorem DI3 {d : Nat → Int32} {n k : Nat} (h : DI d n k) (x : Int32) : DI (upd d 3 x) n k := by
  obtain ⟨h1, h2, h3, h4, h5, h6, h7, h8, h9, h10, h11, h12, h13⟩ := h
  have u : ∀ j, j ≠ 3 → upd d 3 x j = d j := fun j hj => pk_un hj
  refine ⟨by rw [u 1 (by omega)]; exact h1, h2, h3, by rw [u 2 (by omega)]; exact h4, h5, fun i hi => ?_, by rw [u 0 (by omega)]; exact h7, by rw [u 4 (by omega)]; exact h8, by rw [u 5 (by omega)]; exact h9, by rw [u 72 (by omega)]; exact h10, by rw [u 73 (by omega)]; exact h11, fun j hj => by rw [u _ (by omega)]; exact h12 j hj, fun j hj => by rw [u _ (by omega)]; exact h13 j hj⟩
  have hs := h6 i hi
  unfold SG at hs ⊢
  rw [u _ (by omega), u _ (by omega), u _ (by omega), u _ (by omega), u _ (by omega), u _ (by omega), u _ (by omega)]
  exact hs
theorem TXO3 {d : Nat → Int32} {u : Nat} (h : TXO d u) (x : Int32) : TXO (upd d 3 x) u := by
  unfold TXO at h ⊢
  have e : (fun j => upd d 3 x (96 + 50 * u + j)) = (fun j => d (96 + 50 * u + j)) := by
    funext j
    exact pk_un (by omega)
  rw [e, pk_un (by omega)]
  exact h
def sX10_loose : XS := fun as w post => ∃ (A : XA) (F : Nat → Int32) (m p : Int32) (n k : Nat), as = [.ref 0, .int m, .int p] ∧ w = LM A F ∧ DI (A 1) n k ∧ TXO (A 1) 0 ∧ sQ (qloose m p A F) post
theorem upd_cg {f g : Nat → Int32} {k i : Nat} {x : Int32} (h : ∀ t, t < k → f t = g t) : ∀ t, t < k → upd f i x t = upd g i x t := by
  intro t ht
  by_cases q : t = i
  · subst q
    rw [pk_us, pk_us]
  · rw [pk_un q, pk_un q, h t ht]
theorem endD_cg2 {d r r' : Nat → Int32} {k : Nat} (h : ∀ t, t < k → r t = r' t) : endD d r k = endD d r' k := endD_cg h
theorem lset5 {F : Nat → Int32} (B B' : XA) (f f' : Nat → Int32) (h1 : B = B') (h2 : f = f') : List.set (LM B F) 5 (.inl (0, 8, .inl f)) = LM (aset B' 5 f') F := by
  subst h1 h2
  rfl
set_option maxRecDepth 10000 in
set_option maxHeartbeats 1000000 in
theorem mX10_loose (d : Nat) (hd : 64 ≤ d) : xCT d yX10_loose cX10_loose 5 (some .int) sX10_loose := by
  obtain ⟨d, rfl⟩ : ∃ e, d = e + 1 := ⟨d - 1, by omega⟩
  refine xmet (tb := tX10_loose) (fl := fX10) (kc := nX10) (gs := g0) (cl := xlk [(65, false, 3, sX10_in), (128, true, 2, xrcv 10 (sX10_finds)), (185, true, 2, xrcv 10 (sX10_begins)), (178, true, 2, xrcv 10 (sX10_goesBy)), (198, true, 1, xrcv 10 (sX10_drawn)), (192, true, 2, xrcv 10 (sX10_ends))]) (by decide) tX10_loose_ok fX10_ok nX10_ok g0_ok (xg_cons (k_X10_65 (mX10_in d (by omega))) (xg_cons (k_X10_128 (mX10_finds d (by omega))) (xg_cons (k_X10_185 (mX10_begins d (by omega))) (xg_cons (k_X10_178 (mX10_goesBy d (by omega))) (xg_cons (k_X10_198 (mX10_drawn d (by omega))) (xg_cons (k_X10_192 (mX10_ends d (by omega))) xg_nil)))))) ?_
  rintro L xs as w Qp ⟨A, F, m1, p, n, k, rfl, rfl, hI, hT, h⟩
  obtain ⟨hn, hn2, hn12, hk, hk8, -⟩ := id hI
  have hK : (A 1 2).toNatClampNeg = k := by rw [hk]; exact nI_clamp (by omega)
  refine ⟨Nat.le_of_ble_eq_true rfl, 400, xlk [(68, 4)], fun m pc ls st w => pc = 68 ∧ st = [] ∧ ∃ M s A' F', M ≤ 500 ∧ m1 = nI M ∧ s ≤ M ∧ m = M - s ∧ ls = [(0, .ref 0), (1, .int m1), (2, .int p), (3, .int (nI s))] ∧ w = LM A' F' ∧ RS 5 (aset A 1 (upd (A 1) 3 (lsI (A 1) k p s).2)) F A' F' ∧ (∀ t, t < k → A' 5 t = (lsI (A 1) k p s).1 t) ∧ (1 ≤ m1 ∧ m1 ≤ 500) ∧ (0 ≤ p ∧ p ≤ 100) ∧ ¬ (999999 < A 1 0 + m1 ∨ A 1 2 = 0), ?_, ?_⟩
  · refine ⟨m1, 1, 500, rfl, fun g1 g2 => ?_, fun g => ?_⟩
    · refine br_f xc_eq1 ?_
      refine ⟨p, 0, 100, rfl, fun g3 g4 => ?_, fun g => ?_⟩
      · refine br_t xc_ne1 ?_
        refine And.intro (vl 0 250 rfl rfl) ?_
        refine And.intro (fun g => ?_) (fun g => ?_)
        · have g : 999999 < A 1 0 + m1 := g
          refine ⟨A, F, 3, rfl, rfl, by decide, ?_⟩
          exact sQ_e h (cif_t' ⟨⟨g1, g2⟩, ⟨g3, g4⟩⟩ (cif_t' (Or.inl g) rfl))
        · have g : ¬ 999999 < A 1 0 + m1 := g
          refine And.intro (vl 2 250 rfl rfl) ?_
          refine And.intro (fun g5 => ?_) (fun g5 => ?_)
          · have g5 : ¬ A 1 2 = 0 := g5
            refine ⟨5, by omega, A, F, k, rfl, rfl, hk, hk8, ?_⟩
            obtain ⟨M, hM, eM⟩ := rg (c := 500) (by omega) (by rw [fa_le] at g1 ⊢; exact Int.le_trans (by decide) g1) g2
            refine ⟨M, rfl, rfl, M, 0, _, F, hM, eM, Nat.zero_le _, rfl, rfl, rfl, ⟨fun q q4 q7 q5 => ?_, fun _ _ => rfl⟩, fun t ht => ?_, ⟨g1, g2⟩, ⟨g3, g4⟩, ?_⟩
            · rw [aset_n q5]
              have e : upd (A 1) 3 (lsI (A 1) k p 0).2 = A 1 := fa_upd_same rfl
              rw [e, aset_eta]
            · exact nts_nw _ t ht
            · rintro (q | q)
              · exact g q
              · exact g5 q
          · have g5 : A 1 2 = 0 := Classical.byContradiction g5
            refine ⟨A, F, 3, rfl, rfl, by decide, ?_⟩
            exact sQ_e h (cif_t' ⟨⟨g1, g2⟩, ⟨g3, g4⟩⟩ (cif_t' (Or.inr g5) rfl))
      · refine br_f xc_ne0 ?_
        refine ⟨A, F, 1, rfl, rfl, by decide, ?_⟩
        exact sQ_e h (cif_f' (fun q => g q.2) rfl)
    · refine br_t xc_eq0 ?_
      refine ⟨A, F, 1, rfl, rfl, by decide, ?_⟩
      exact sQ_e h (cif_f' (fun q => g q.1) rfl)
  · rintro m pc m9 ls st w hc ⟨rfl, rfl, M, s, A', F', hM, eM, hs, rfl, rfl, rfl, hR, h5, g12, g34, gn⟩
    have e1 : A' 1 = upd (A 1) 3 (lsI (A 1) k p s).2 := hR.1 1 (by omega) (by omega) (by omega)
    have hk0 : 0 < k := by
      rcases Nat.eq_zero_or_pos k with q | q
      · subst q
        exact absurd (Or.inr hk) gn
      · exact q
    subst eM
    refine And.intro (fun g => ?_) (fun g => ?_)
    · have := ge_n rfl (by omega) (by omega) g
      have es : s = M := by omega
      subst es
      refine ⟨A', F', k, rfl, rfl, by rw [e1, pk_un (by omega)]; exact hk, hk8, ?_⟩
      refine And.intro (vl 0 250 rfl rfl) (And.intro (vl 0 250 rfl rfl) (And.intro (vl 0 250 rfl rfl) ?_))
      have e0 : qloose (nI s) p A F = _ := cif_t' ⟨g12, g34⟩ (cif_f' gn rfl)
      rw [hK, cl (by omega)] at e0
      have e5 : endD (A' 1) (A' 5) k = endD (upd (A 1) 3 (lsI (A 1) k p s).2) (lsI (A 1) k p s).1 k := by
        rw [e1]
        exact endD_cg h5
      have ez : endD (A' 1) (A' 5) k 0 + nI s = A 1 0 + nI s := by rw [endD_at (by omega), e1, pk_un (by omega)]
      have hp := hR.per5 (by omega)
      show Qp (some (.int (upd (endD (A' 1) (A' 5) k) 0 (endD (A' 1) (A' 5) k 0 + nI s) 0))) (LM (aset (aset A' 1 (endD (A' 1) (A' 5) k)) 1 (upd (endD (A' 1) (A' 5) k) 0 (endD (A' 1) (A' 5) k 0 + nI s))) F')
      rw [aset_aset, pk_us, ez, e5]
      exact sQ_p h e0 ⟨rfl, hp.2.1, hp.2.2.1, hp.2.2.2.1, hp.2.2.2.2.1, hp.2.2.2.2.2.1, hp.2.2.2.2.2.2.1, hp.2.2.2.2.2.2.2⟩
    · have hlt := nge_n rfl (by omega) (by omega) g
      refine ⟨5, by omega, A', F', n, k, rfl, rfl, by rw [e1]; exact DI3 hI _, by rw [e1]; exact TXO3 hT _, fun A2 F2 h2 hR2 => ?_⟩
      have e12 : A2 1 = upd (A 1) 3 (lsI (A 1) k p s).2 := (hR2.1 1 (by omega) (by omega) (by omega)).trans e1
      have e23 : A2 1 3 = (lsI (A 1) k p s).2 := by rw [e12]; exact pk_us
      have u8 : ∀ y j, j = 1 ∨ 8 ≤ j → upd (A 1) 3 y j = A 1 j := fun y j hj => pk_un (by omega)
      have h25 : ∀ t, t < k → A2 5 t = stp (A 1) k (lsI (A 1) k p s).1 t := by
        intro t ht
        rw [h2, e1, stp_cg8 (u8 _)]
        exact stp_cg hI h5 t ht
      refine ⟨A2, F2, rfl, rfl, ?_⟩
      refine And.intro (vl 2 250 rfl rfl) ?_
      have ek : upd (A2 1) 3 (dr1 (A2 1 3)) 2 = nI k := by rw [pk_un (by omega), e12, pk_un (by omega)]; exact hk
      refine And.intro (by show ¬ upd (A2 1) 3 (dr1 (A2 1 3)) 2 = 0; rw [ek]; exact nI_ne0 (by omega) (by omega)) ?_
      refine ⟨_, F2, rfl, rfl, ?_⟩
      refine And.intro (by decide) ?_
      have x1 : upd (A2 1) 3 (dr1 (A2 1 3)) 3 = dr1 (A2 1 3) := pk_us
      have cA : aset (aset A2 1 (upd (A2 1) 3 (dr1 (A2 1 3)))) 1 (upd (upd (A2 1) 3 (dr1 (A2 1 3))) 3 (dr1 (upd (A2 1) 3 (dr1 (A2 1 3)) 3))) = aset A2 1 (upd (A 1) 3 (dr1 (dr1 (lsI (A 1) k p s).2))) := by
        rw [aset_aset, x1, fa_upd_twice, e23, e12, fa_upd_twice]
      have eS : rm (drO (dr1 (A2 1 3))) (upd (A2 1) 3 (dr1 (A2 1 3)) 2) = nI (sx k (lsI (A 1) k p s).2) ∧ sx k (lsI (A 1) k p s).2 < k := by
        rw [ek, e23]
        obtain ⟨j, hj, ej⟩ := rm_b (dr1 (lsI (A 1) k p s).2) hk0 (by omega)
        unfold sx
        rw [ej, cl (by omega)]
        exact ⟨rfl, hj⟩
      have hRR : ∀ f, RS 5 (aset A 1 (upd (A 1) 3 (dr1 (dr1 (lsI (A 1) k p s).2)))) F (aset (aset A2 1 (upd (A 1) 3 (dr1 (dr1 (lsI (A 1) k p s).2)))) 5 f) F2 := by
        intro f
        refine ⟨fun q q4 q7 q5 => ?_, fun q hq => (hR2.2 q hq).trans (hR.2 q hq)⟩
        rw [aset_n q5]
        by_cases q1 : q = 1
        · subst q1
          rw [aset_s, aset_s]
        · rw [aset_n q1, aset_n q1, hR2.1 q q4 q7 q5, hR.1 q q4 q7 q5, aset_n q1]
      refine And.intro (fun g2 => ?_) (fun g2 => ?_)
      · have g2 : p ≤ rm (drO (dr1 (upd (A2 1) 3 (dr1 (A2 1 3)) 3))) 100 := g2
        rw [x1, e23] at g2
        have g2 : ¬ rm (drO (dr1 (dr1 (lsI (A 1) k p s).2))) 100 < p := fun q => (fa_of_lt q).2.1 g2
        refine ⟨M - (s + 1), by omega, rfl, rfl, M, s + 1, aset A2 1 (upd (A 1) 3 (dr1 (dr1 (lsI (A 1) k p s).2))), F2, hM, rfl, hlt, rfl, by rw [← nI_1]; rfl, congrArg (fun B => LM B F2) cA, ?_, fun t ht => ?_, g12, g34, gn⟩
        · have := hRR (A2 5)
          have e : aset (aset A2 1 (upd (A 1) 3 (dr1 (dr1 (lsI (A 1) k p s).2)))) 5 (A2 5) = aset A2 1 (upd (A 1) 3 (dr1 (dr1 (lsI (A 1) k p s).2))) := aset_eta (aset A2 1 (upd (A 1) 3 (dr1 (dr1 (lsI (A 1) k p s).2)))) 5
          rw [e] at this
          exact this
        · show A2 5 t = (lsT (A 1) k p (lsI (A 1) k p s)).1 t
          unfold lsT
          rw [cif_f g2]
          exact h25 t ht
      · have g2 : ¬ p ≤ rm (drO (dr1 (upd (A2 1) 3 (dr1 (A2 1 3)) 3))) 100 := g2
        rw [x1, e23] at g2
        have g2 : rm (drO (dr1 (dr1 (lsI (A 1) k p s).2))) 100 < p := fa_of_nle g2
        have i1 : vp_in (rm (drO (dr1 (A2 1 3))) (upd (A2 1) 3 (dr1 (A2 1 3)) 2)) 8 := by rw [eS.1]; exact vp_in_nI (by omega) (by decide)
        refine And.intro i1 (And.intro (vl 1 250 rfl rfl) ?_)
        have en : upd (upd (A2 1) 3 (dr1 (A2 1 3))) 3 (dr1 (upd (A2 1) 3 (dr1 (A2 1 3)) 3)) 1 = nI n := by rw [pk_un (by omega), pk_un (by omega), e12, pk_un (by omega)]; exact hn
        refine And.intro (by show ¬ upd (upd (A2 1) 3 (dr1 (A2 1 3))) 3 (dr1 (upd (A2 1) 3 (dr1 (A2 1 3)) 3)) 1 = 0; rw [en]; exact nI_ne0 (by omega) (by omega)) ?_
        refine And.intro i1 ?_
        have ev : upd (A2 5) (rm (drO (dr1 (A2 1 3))) (upd (A2 1) 3 (dr1 (A2 1 3)) 2)).toNatClampNeg (rm (A2 5 (rm (drO (dr1 (A2 1 3))) (upd (A2 1) 3 (dr1 (A2 1 3)) 2)).toNatClampNeg + 1) (upd (upd (A2 1) 3 (dr1 (A2 1 3))) 3 (dr1 (upd (A2 1) 3 (dr1 (A2 1 3)) 3)) 1)) = upd (A2 5) (sx k (lsI (A 1) k p s).2) (rm (stp (A 1) k (lsI (A 1) k p s).1 (sx k (lsI (A 1) k p s).2) + 1) (A 1 1)) := by
          rw [eS.1, cl (by omega), en, h25 _ eS.2, hn]
        refine ⟨M - (s + 1), by omega, rfl, rfl, M, s + 1, aset (aset A2 1 (upd (A 1) 3 (dr1 (dr1 (lsI (A 1) k p s).2)))) 5 (upd (A2 5) (sx k (lsI (A 1) k p s).2) (rm (stp (A 1) k (lsI (A 1) k p s).1 (sx k (lsI (A 1) k p s).2) + 1) (A 1 1))), F2, hM, rfl, hlt, rfl, by rw [← nI_1]; rfl, ?_, hRR _, fun t ht => ?_, g12, g34, gn⟩
        · exact lset5 _ _ _ _ cA ev
        · rw [aset_s]
          show _ = (lsT (A 1) k p (lsI (A 1) k p s)).1 t
          unfold lsT
          rw [cif_t g2]
          exact upd_cg h25 t ht
