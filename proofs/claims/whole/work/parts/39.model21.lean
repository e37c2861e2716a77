/-! ===== the reference: longer ===== -/
noncomputable def lgN (d : Nat → Int32) (n k s c : Nat) : Int32 := nI (rdL (mdD d n s c) k) - nI (rdT (mdD d n s c) k)
noncomputable def lgI (d : Nat → Int32) (n k s : Nat) (st : Int32 × Int32) : Nat → Int32 × Int32
  | 0 => st
  | c + 1 => cif (¬ rdL (mdD d n s c) k = 601 ∧ (lgI d n k s st c).2 < lgN d n k s c) (10000 * nI s + 100 * nI (c / n) + nI (c % n), lgN d n k s c) (lgI d n k s st c)
noncomputable def lgO (d : Nat → Int32) (n k : Nat) : Nat → Int32 × Int32
  | 0 => (-1, 0)
  | s + 1 => lgI d n k s (lgO d n k s) (6 * n)
noncomputable def qlonger (what : Int32) (A : XA) (F : Nat → Int32) : XR := cif (0 ≤ what ∧ what ≤ 1) (cif ((lgO (A 1) (nN A) (kN A) (kN A)).1 < 0) (eR 2 A F) (cif (what = 0) (lgO (A 1) (nN A) (kN A) (kN A)).1 (lgO (A 1) (nN A) (kN A) (kN A)).2, A, F)) (eR 1 A F)
def sX10_longer : XS := fun as w post => ∃ (A : XA) (F : Nat → Int32) (what : Int32) (n k : Nat), as = [.ref 0, .int what] ∧ w = LM A F ∧ DI (A 1) n k ∧ TXO (A 1) 0 ∧ sQ (qlonger what A F) post
def LZ (A : XA) (F : Nat → Int32) (A' : XA) (F' : Nat → Int32) : Prop := (∀ p, p ≠ 1 → p ≠ 4 → p ≠ 5 → p ≠ 7 → p ≠ 8 → p ≠ 9 → A' p = A p) ∧ (∀ q, ¬ (4 ≤ q ∧ q ≤ 9) → q ≠ 16 → q ≠ 17 → F' q = F q)
theorem LZ.per {A A' : XA} {F F' : Nat → Int32} (h : LZ A F A' F') (h1 : A' 1 = A 1) : per A F A' F' := ⟨h1, h.1 2 (by omega) (by omega) (by omega) (by omega) (by omega) (by omega), h.1 3 (by omega) (by omega) (by omega) (by omega) (by omega) (by omega), h.1 14 (by omega) (by omega) (by omega) (by omega) (by omega) (by omega), h.1 15 (by omega) (by omega) (by omega) (by omega) (by omega) (by omega), h.1 16 (by omega) (by omega) (by omega) (by omega) (by omega) (by omega), h.1 17 (by omega) (by omega) (by omega) (by omega) (by omega) (by omega), h.2 2 (by omega) (by omega) (by omega), h.2 24 (by omega) (by omega) (by omega)⟩
set_option maxRecDepth 10000 in
set_option maxHeartbeats 1000000 in
theorem mX10_longer (d : Nat) (hd : 65 ≤ d) : xCT d yX10_longer cX10_longer 8 (some .int) sX10_longer := by
  obtain ⟨d, rfl⟩ : ∃ e, d = e + 1 := ⟨d - 1, by omega⟩
  refine xmet (tb := tX10_longer) (fl := fX10) (kc := nX10) (gs := g0) (cl := xlk [(65, false, 3, sX10_in), (128, true, 2, xrcv 10 (sX10_finds)), (149, true, 3, xrcv 10 (sX10_its)), (152, true, 4, xrcv 10 (sX10_becomes)), (217, true, 1, xrcv 10 (sX10_findRound))]) (by decide) tX10_longer_ok fX10_ok nX10_ok g0_ok (xg_cons (k_X10_65 (mX10_in d (by omega))) (xg_cons (k_X10_128 (mX10_finds d (by omega))) (xg_cons (k_X10_149 (mX10_its d (by omega))) (xg_cons (k_X10_152 (mX10_becomes d (by omega))) (xg_cons (k_X10_217 (mX10_findRound d (by omega))) xg_nil))))) ?_
  rintro L xs as w Qp ⟨A, F, what, n, k, rfl, rfl, hI, hT, hQ⟩
  obtain ⟨hn, hn2, hn12, hk, hk8, hsg, -⟩ := id hI
  obtain ⟨eN, eK⟩ := DI_nk hI
  unfold qlonger at hQ
  rw [eN, eK] at hQ
  refine ⟨Nat.le_of_ble_eq_true rfl, 400, xlk [(23, 5), (55, 8)], fun m pc ls st w => st = [] ∧ ∃ s A' F', s ≤ k ∧ (0 ≤ what ∧ what ≤ 1) ∧ w = LM A' F' ∧ LZ A F A' F' ∧ ((pc = 23 ∧ A' 1 = A 1 ∧ m = 1000 - 100 * s ∧ ls = [(0, .ref 0), (1, .int what), (2, .int (lgO (A 1) n k s).1), (3, .int (lgO (A 1) n k s).2), (4, .int (nI s))]) ∨ (pc = 55 ∧ s < k ∧ ∃ c x y, c ≤ 6 * n ∧ bd x 7 ∧ bd y 100 ∧ A' 1 = upd (upd (A 1) (8 + 8 * s + 0) x) (8 + 8 * s + 1) y ∧ m = 999 - 100 * s - c ∧ ls = [(0, .ref 0), (1, .int what), (2, .int (lgI (A 1) n k s (lgO (A 1) n k s) c).1), (3, .int (lgI (A 1) n k s (lgO (A 1) n k s) c).2), (4, .int (nI s)), (5, .int (A 1 (8 + 8 * s + 0))), (6, .int (A 1 (8 + 8 * s + 1))), (7, .int (nI c))])), ?_, ?_⟩
  · refine ⟨what, 0, 1, rfl, fun g1 g2 => ?_, fun g => ?_⟩
    · refine br_t xc_ne1 ?_
      exact ⟨1000, rfl, 0, A, F, Nat.zero_le _, ⟨g1, g2⟩, rfl, ⟨fun _ _ _ _ _ _ _ => rfl, fun _ _ _ _ => rfl⟩, Or.inl ⟨rfl, rfl, rfl, rfl⟩⟩
    · refine br_f xc_ne0 ?_
      refine ⟨A, F, 1, rfl, rfl, by decide, ?_⟩
      exact sQ_e hQ (cif_f' g rfl)
  · rintro m pc m9 ls st w hc ⟨rfl, s, A', F', hs, g12, rfl, hZ, ⟨rfl, e1, rfl, rfl⟩ | ⟨rfl, hsk, c, x, y, hc6, hx, hy, e1, rfl, rfl⟩⟩
    · rw [cif_t g12] at hQ
      have hk' : A' 1 2 = nI k := by rw [e1]; exact hk
      refine And.intro (vl 2 250 rfl rfl) ?_
      refine And.intro (fun g => ?_) (fun g => ?_)
      · have := ge_n hk' (by omega) (by omega) g
        have es : s = k := by omega
        subst es
        refine And.intro (fun g2 => ?_) (fun g2 => ?_)
        · have g2 : 0 ≤ (lgO (A 1) n s s).1 := g2
          rw [cif_f (fun q => (fa_of_lt q).2.1 g2)] at hQ
          refine And.intro (fun g3 => ?_) (fun g3 => ?_)
          · have g3 : ¬ what = 0 := g3
            rw [cif_f g3] at hQ
            exact sQ_p hQ rfl (hZ.per e1)
          · have g3 : what = 0 := Classical.byContradiction g3
            rw [cif_t g3] at hQ
            exact sQ_p hQ rfl (hZ.per e1)
        · have g2 : ¬ 0 ≤ (lgO (A 1) n s s).1 := g2
          rw [cif_t (fa_of_nle g2)] at hQ
          refine ⟨A', F', 2, rfl, rfl, by decide, ?_⟩
          exact sQ_p hQ rfl (per_er (hZ.per e1) 2)
      · have hlt := nge_n hk' (by omega) (by omega) g
        refine ⟨A', F', s, 0, rfl, rfl, by omega, ?_⟩
        refine ⟨A', F', s, 1, rfl, rfl, by omega, ?_⟩
        obtain ⟨hx, hy, -⟩ := hsg s hlt
        refine ⟨999 - 100 * s, by omega, rfl, s, A', F', hs, g12, rfl, hZ, Or.inr ⟨rfl, hlt, 0, A 1 (8 + 8 * s + 0), A 1 (8 + 8 * s + 1), Nat.zero_le _, hx, hy, by rw [upd2_id]; exact e1, rfl, ?_⟩⟩
        rw [e1]
        rfl
    · have en : A' 1 1 = nI n := by rw [e1, pk_un (by omega), pk_un (by omega)]; exact hn
      have e6 : (6 : Int32) * A' 1 1 = nI (6 * n) := by rw [en, show (6 : Int32) = nI 6 from rfl, pk_mul]
      refine And.intro (vl 1 250 rfl rfl) ?_
      refine And.intro (fun g => ?_) (fun g => ?_)
      · have := ge_n e6 (by omega) (by omega) g
        have ec : c = 6 * n := by omega
        have back : aset (aset A' 1 (upd (A' 1) (8 + 8 * s + 0) (A 1 (8 + 8 * s + 0)))) 1 (upd (upd (A' 1) (8 + 8 * s + 0) (A 1 (8 + 8 * s + 0))) (8 + 8 * s + 1) (A 1 (8 + 8 * s + 1))) = aset A' 1 (A 1) := by
          rw [aset_aset, e1, upd4 _ (by omega), upd2_id]
        refine ⟨A', F', s, 0, _, rfl, rfl, by omega, ?_⟩
        refine ⟨_, F', s, 1, _, rfl, rfl, by omega, ?_⟩
        refine ⟨1000 - 100 * (s + 1), by omega, rfl, s + 1, aset A' 1 (A 1), F', hsk, g12, congrArg (fun B => LM B F') back, ⟨fun p p1 p4 p5 p7 p8 p9 => (aset_n p1).trans (hZ.1 p p1 p4 p5 p7 p8 p9), hZ.2⟩, Or.inl ⟨rfl, aset_s _ _ _, rfl, ?_⟩⟩
        rw [ec, ← nI_1]
        rfl
      · have hlt := nge_n e6 (by omega) (by omega) g
        have hz1 : ¬ A' 1 1 = 0 := by rw [en]; exact nI_ne0 (by omega) (by omega)
        have hcd : c / n < 6 := Nat.div_lt_of_lt_mul (by rw [Nat.mul_comm]; exact hlt)
        have hcm : c % n < n := Nat.mod_lt _ (by omega)
        have ed : nI c / A' 1 1 = nI (c / n) := by rw [en, pk_div (by omega) (by omega) (by omega)]
        refine And.intro (vl 1 250 rfl rfl) (And.intro hz1 ?_)
        refine ⟨A', F', s, 0, _, rfl, rfl, by omega, ?_⟩
        have en2 : upd (A' 1) (8 + 8 * s + 0) (nI c / A' 1 1) 1 = nI n := by rw [pk_un (by omega)]; exact en
        have hz2 : ¬ upd (A' 1) (8 + 8 * s + 0) (nI c / A' 1 1) 1 = 0 := by rw [en2]; exact nI_ne0 (by omega) (by omega)
        have em : nI c - nI c / upd (A' 1) (8 + 8 * s + 0) (nI c / A' 1 1) 1 * upd (A' 1) (8 + 8 * s + 0) (nI c / A' 1 1) 1 = nI (c % n) := by rw [en2, pk_rem (by omega) (by omega) (by omega)]
        refine And.intro (vl 1 250 rfl rfl) (And.intro hz2 ?_)
        refine ⟨_, F', s, 1, _, rfl, rfl, by omega, ?_⟩
        have eA : aset (aset A' 1 (upd (A' 1) (8 + 8 * s + 0) (nI c / A' 1 1))) 1 (upd (upd (A' 1) (8 + 8 * s + 0) (nI c / A' 1 1)) (8 + 8 * s + 1) (nI c - nI c / upd (A' 1) (8 + 8 * s + 0) (nI c / A' 1 1) 1 * upd (A' 1) (8 + 8 * s + 0) (nI c / A' 1 1) 1)) = aset A' 1 (mdD (A 1) n s c) := by
          rw [aset_aset, em, ed, e1, upd4 _ (by omega)]
          rfl
        have hD : DI (mdD (A 1) n s c) n k := DIk hI hsk ⟨c / n, by omega, rfl⟩ ⟨c % n, by omega, rfl⟩
        have hZ2 : ∀ A2 F2, NZ (aset A' 1 (mdD (A 1) n s c)) F' A2 F2 → LZ A F A2 F2 ∧ A2 1 = mdD (A 1) n s c := fun A2 F2 h2 => ⟨⟨fun p p1 p4 p5 p7 p8 p9 => (h2.1 p p4 p5 p7 p8 p9).trans ((aset_n p1).trans (hZ.1 p p1 p4 p5 p7 p8 p9)), fun q q1 q2 q3 => (h2.2 q q1 q2 q3).trans (hZ.2 q q1 q2 q3)⟩, h2.one.trans (aset_s _ _ _)⟩
        have hstay : ¬ (¬ rdL (mdD (A 1) n s c) k = 601 ∧ (lgI (A 1) n k s (lgO (A 1) n k s) c).2 < lgN (A 1) n k s c) → lgI (A 1) n k s (lgO (A 1) n k s) (c + 1) = lgI (A 1) n k s (lgO (A 1) n k s) c := fun q => cif_f q
        refine ⟨aset A' 1 (mdD (A 1) n s c), F', n, k, rfl, congrArg (fun B => LM B F') eA, hD, TXOk hT (by omega) _ _, fun h3 A2 F2 h2 h16 h17 => ?_, fun h3 A2 F2 h2 => ?_⟩
        · obtain ⟨hZ2, e21⟩ := hZ2 A2 F2 h2
          have h3 : ¬ rdL (mdD (A 1) n s c) k = 601 := h3
          have h17 : F2 17 = lgN (A 1) n k s c := h17
          have en3 : A2 1 1 = nI n := by rw [e21]; exact hD.1
          have hz3 : ¬ A2 1 1 = 0 := by rw [en3]; exact nI_ne0 (by omega) (by omega)
          refine br_f xc_eq1 ?_
          refine And.intro (fun g2 => ?_) (fun g2 => ?_)
          · have g2 : F2 17 ≤ (lgI (A 1) n k s (lgO (A 1) n k s) c).2 := g2
            rw [h17] at g2
            refine ⟨999 - 100 * s - (c + 1), by omega, rfl, s, A2, F2, hs, g12, rfl, hZ2, Or.inr ⟨rfl, hsk, c + 1, nI (c / n), nI (c % n), hlt, ⟨c / n, by omega, rfl⟩, ⟨c % n, by omega, rfl⟩, e21, rfl, ?_⟩⟩
            rw [hstay (fun q => (fa_of_lt q.2).2.1 g2), ← nI_1]
            rfl
          · have g2 : ¬ F2 17 ≤ (lgI (A 1) n k s (lgO (A 1) n k s) c).2 := g2
            rw [h17] at g2
            refine And.intro (vl 1 250 rfl rfl) (And.intro hz3 (And.intro (vl 1 250 rfl rfl) (And.intro hz3 ?_)))
            refine ⟨999 - 100 * s - (c + 1), by omega, rfl, s, A2, F2, hs, g12, rfl, hZ2, Or.inr ⟨rfl, hsk, c + 1, nI (c / n), nI (c % n), hlt, ⟨c / n, by omega, rfl⟩, ⟨c % n, by omega, rfl⟩, e21, rfl, ?_⟩⟩
            show [(0, Value.ref 0), (1, Value.int what), (2, Value.int (10000 * nI s + 100 * (nI c / A2 1 1) + (nI c - nI c / A2 1 1 * A2 1 1))), (3, Value.int (F2 17)), (4, Value.int (nI s)), (5, Value.int (A 1 (8 + 8 * s + 0))), (6, Value.int (A 1 (8 + 8 * s + 1))), (7, Value.int (nI c + 1))] = _
            have e : lgI (A 1) n k s (lgO (A 1) n k s) (c + 1) = (10000 * nI s + 100 * nI (c / n) + nI (c % n), lgN (A 1) n k s c) := cif_t ⟨h3, fa_of_nle g2⟩
            rw [e, h17, en3, pk_rem (by omega) (by omega) (by omega), pk_div (by omega) (by omega) (by omega), nI_1]
        · obtain ⟨hZ2, e21⟩ := hZ2 A2 F2 h2
          have h3 : rdL (mdD (A 1) n s c) k = 601 := h3
          refine br_t xc_eq0 ?_
          refine ⟨999 - 100 * s - (c + 1), by omega, rfl, s, A2, F2, hs, g12, rfl, hZ2, Or.inr ⟨rfl, hsk, c + 1, nI (c / n), nI (c % n), hlt, ⟨c / n, by omega, rfl⟩, ⟨c % n, by omega, rfl⟩, e21, rfl, ?_⟩⟩
          rw [hstay (fun q => q.1 h3), ← nI_1]
          rfl
