/-! ===== what lasts: further calls ===== -/
theorem i_sing {mA : XA} {mF : Nat → Int32} {n k : Nat} (h : CI mA mF n k) (s y z : Int32) : ∃ n' k', CI (qsing s y z mA mF).2.1 (qsing s y z mA mF).2.2 n' k' := by
  obtain ⟨hn, hn2, hn12, hk, hk8, hSG, _⟩ := id h.1
  by_cases g : isS (mA 1) s ∧ (0 ≤ y ∧ y ≤ 1) ∧ (-y ≤ z ∧ z ≤ mA 1 1 - 1)
  · obtain ⟨i, hi, e⟩ := isS_n' hk hk8 g.1
    have g4 := g.2.2.2
    rw [hn, show (1 : Int32) = nI 1 from rfl, pk_sub (by omega)] at g4
    by_cases y0 : y = 0
    · have g3 : (0 : Int32) ≤ z := by
        have := g.2.2.1
        rw [y0] at this
        exact this
      obtain ⟨a, ha, ea⟩ := rg (c := n - 1) (by omega) g3 g4
      refine CI_d h (cif_t' g (cif_t' y0 (by rw [e, cl (by omega)]))) (DI_sg h.1 (pk_un (by omega)) (pk_un (by omega)) (pk_un (by omega)) (pk_un (by omega)) (pk_un (by omega)) (fun j hj => pk_un (by omega)) (fun j hj => ?_)) (TXO_72 h.2.1 (fun j hj => pk_un (by omega))) (TXO_72 h.2.2.1 (fun j hj => pk_un (by omega)))
      have hg := hSG j hj
      unfold SG at hg ⊢
      rw [pk_un (show 8 + 8 * j ≠ 8 + 8 * i + 2 by omega), pk_un (show 8 + 8 * j + 1 ≠ 8 + 8 * i + 2 by omega), pk_un (show 8 + 8 * j + 3 ≠ 8 + 8 * i + 2 by omega), pk_un (show 8 + 8 * j + 4 ≠ 8 + 8 * i + 2 by omega), pk_un (show 8 + 8 * j + 5 ≠ 8 + 8 * i + 2 by omega), pk_un (show 8 + 8 * j + 6 ≠ 8 + 8 * i + 2 by omega)]
      refine ⟨hg.1, hg.2.1, ?_, hg.2.2.2⟩
      by_cases q : j = i
      · subst q
        rw [pk_us]
        exact ⟨a, by omega, ea⟩
      · rw [pk_un (by omega)]
        exact hg.2.2.1
    · have y1 : y = 1 := by
        obtain ⟨b, hb, eb⟩ := rg (c := 1) (by omega) g.2.1.1 g.2.1.2
        have : b = 0 ∨ b = 1 := by omega
        rcases this with rfl | rfl
        · exact absurd eb y0
        · exact eb
      have bz : z = -1 ∨ bd z n := by
        by_cases q : (0 : Int32) ≤ z
        · obtain ⟨a, ha, ea⟩ := rg (c := n - 1) (by omega) q g4
          exact Or.inr ⟨a, by omega, ea⟩
        · refine Or.inl ?_
          have g3 := g.2.2.1
          rw [y1] at g3
          rw [fa_le] at g3 q
          have g3 : (-1 : Int) ≤ z.toInt := g3
          have q : ¬ (0 : Int) ≤ z.toInt := q
          rw [fa_eq]
          show z.toInt = -1
          omega
      refine CI_d h (cif_t' g (cif_f' y0 (by rw [e, cl (by omega)]))) (DI_sg h.1 (pk_un (by omega)) (pk_un (by omega)) (pk_un (by omega)) (pk_un (by omega)) (pk_un (by omega)) (fun j hj => pk_un (by omega)) (fun j hj => ?_)) (TXO_72 h.2.1 (fun j hj => pk_un (by omega))) (TXO_72 h.2.2.1 (fun j hj => pk_un (by omega)))
      have hg := hSG j hj
      unfold SG at hg ⊢
      rw [pk_un (show 8 + 8 * j ≠ 8 + 8 * i + 5 by omega), pk_un (show 8 + 8 * j + 1 ≠ 8 + 8 * i + 5 by omega), pk_un (show 8 + 8 * j + 3 ≠ 8 + 8 * i + 5 by omega), pk_un (show 8 + 8 * j + 4 ≠ 8 + 8 * i + 5 by omega), pk_un (show 8 + 8 * j + 2 ≠ 8 + 8 * i + 5 by omega), pk_un (show 8 + 8 * j + 6 ≠ 8 + 8 * i + 5 by omega)]
      refine ⟨hg.1, hg.2.1, hg.2.2.1, hg.2.2.2.1, hg.2.2.2.2.1, ?_, hg.2.2.2.2.2.2⟩
      by_cases q : j = i
      · subst q
        rw [pk_us]
        exact bz
      · rw [pk_un (by omega)]
        exact hg.2.2.2.2.2.1
  · exact CI_e (j := 1) h (cif_f' g rfl)
theorem came_all {f : Nat → Int32} {N : Int32} {p : Nat} : ∀ m i, i < came f N p m → 0 ≤ f (p + i) ∧ f (p + i) ≤ N - 1
  | 0, i, h => absurd h (Nat.not_lt_zero _)
  | m + 1, i, h => by
    have h : i < cif (came f N p m = m ∧ 0 ≤ f (p + m) ∧ f (p + m) ≤ N - 1) (m + 1) (came f N p m) := h
    by_cases g : came f N p m = m ∧ 0 ≤ f (p + m) ∧ f (p + m) ≤ N - 1
    · rw [cif_t g] at h
      by_cases q : i = m
      · rw [q]
        exact g.2
      · exact came_all m i (by rw [g.1]; omega)
    · rw [cif_f g] at h
      exact came_all m i h
theorem i_begin {mA : XA} {mF : Nat → Int32} {n k : Nat} (h : CI mA mF n k) (s : Int32) : ∃ n' k', CI (qbegin s mA mF).2.1 (qbegin s mA mF).2.2 n' k' := by
  obtain ⟨hn, hn2, hn12, hk, hk8, hSG, _⟩ := id h.1
  by_cases g : isH s
  · by_cases b : mA 15 s.toNatClampNeg = 0
    · exact CI_e (j := 2) h (cif_t' g (cif_t' b rfl))
    · generalize hcc : came (mA 17) (mA 1 1) (40 * s.toNatClampNeg) (min (mA 16 s.toNatClampNeg).toNatClampNeg (mA 1 2).toNatClampNeg) = cc
      have hq : qbegin s mA mF = (nI cc, aset mA 1 (begD (mA 1) (mA 17) (40 * s.toNatClampNeg) cc), mF) := cif_t' g (cif_f' b (by rw [hcc]))
      have bD : ∀ j, (∀ t, t < cc → j ≠ 8 + 8 * t + 2) → begD (mA 1) (mA 17) (40 * s.toNatClampNeg) cc j = mA 1 j := fun j b => by
        unfold begD
        rw [if_neg]
        rintro ⟨q1, q2, q3⟩
        exact b ((j - 8) / 8) q2 (by omega)
      have hle : ∀ f N p m, came f N p m ≤ m := by
        intro f N p m
        induction m with
        | zero => exact Nat.le_refl _
        | succ m ih =>
          show cif (came f N p m = m ∧ 0 ≤ f (p + m) ∧ f (p + m) ≤ N - 1) (m + 1) (came f N p m) ≤ m + 1
          by_cases g : came f N p m = m ∧ 0 ≤ f (p + m) ∧ f (p + m) ≤ N - 1
          · rw [cif_t g]
            exact Nat.le_refl _
          · rw [cif_f g]
            omega
      have hcck : cc ≤ k := by
        have := hle (mA 17) (mA 1 1) (40 * s.toNatClampNeg) (min (mA 16 s.toNatClampNeg).toNatClampNeg (mA 1 2).toNatClampNeg)
        rw [hcc, hk, cl (by omega)] at this
        omega
      refine CI_d h hq (DI_sg h.1 (bD _ (fun t ht => by omega)) (bD _ (fun t ht => by omega)) (bD _ (fun t ht => by omega)) (bD _ (fun t ht => by omega)) (bD _ (fun t ht => by omega)) (fun j hj => bD j (fun t ht => by omega)) (fun j hj => ?_)) (TXO_72 h.2.1 (fun j hj => bD j (fun t ht => by omega))) (TXO_72 h.2.2.1 (fun j hj => bD j (fun t ht => by omega)))
      have hg := hSG j hj
      unfold SG at hg ⊢
      rw [bD (8 + 8 * j) (fun t ht => by omega), bD (8 + 8 * j + 1) (fun t ht => by omega), bD (8 + 8 * j + 3) (fun t ht => by omega), bD (8 + 8 * j + 4) (fun t ht => by omega), bD (8 + 8 * j + 5) (fun t ht => by omega), bD (8 + 8 * j + 6) (fun t ht => by omega)]
      refine ⟨hg.1, hg.2.1, ?_, hg.2.2.2⟩
      by_cases q : j < cc
      · have e : begD (mA 1) (mA 17) (40 * s.toNatClampNeg) cc (8 + 8 * j + 2) = mA 17 (40 * s.toNatClampNeg + j) := by
          unfold begD
          have e1 : (8 + 8 * j + 2 - 8) / 8 = j := by omega
          have e2 : (8 + 8 * j + 2 - 8) % 8 = 2 := by omega
          rw [e1, e2, if_pos ⟨by omega, q, rfl⟩]
        have := came_all (f := mA 17) (N := mA 1 1) (p := 40 * s.toNatClampNeg) (min (mA 16 s.toNatClampNeg).toNatClampNeg (mA 1 2).toNatClampNeg) j (by rw [hcc]; exact q)
        rw [e]
        have g2 := this.2
        rw [hn, show (1 : Int32) = nI 1 from rfl, pk_sub (by omega)] at g2
        obtain ⟨a, ha, ea⟩ := rg (c := n - 1) (by omega) this.1 g2
        exact ⟨a, by omega, ea⟩
      · rw [bD _ (fun t ht => by omega)]
        exact hg.2.2.1
  · exact CI_e (j := 1) h (cif_f' g rfl)
theorem i_seed {mA : XA} {mF : Nat → Int32} {n k : Nat} (h : CI mA mF n k) (v : Int32) : ∃ n' k', CI (qseed v mA mF).2.1 (qseed v mA mF).2.2 n' k' := CI_d h rfl (DI3 h.1 v) (TXO3 h.2.1 v) (TXO3 h.2.2.1 v)
theorem i_tell {mA : XA} {mF : Nat → Int32} {n k : Nat} (h : CI mA mF n k) (v : Int32) : ∃ n' k', CI (qtell v mA mF).2.1 (qtell v mA mF).2.2 n' k' := by
  obtain ⟨hn, hn2, hn12, hk, hk8, hSG, g7, g8, ⟨w, hw, ew⟩, g10, g11, g12, g13⟩ := id h.1
  by_cases g : mA 1 5 = 20
  · exact CI_e (j := 4) h (cif_t' g rfl)
  · have hw20 : w < 20 := by
      refine Classical.byContradiction (fun q => g ?_)
      rw [ew, show w = 20 by omega]
      rfl
    have uD : ∀ j, j ≠ 76 + w → j ≠ 5 → upd (upd (mA 1) (76 + w) v) 5 (nI (w + 1)) j = mA 1 j := fun j a b => (pk_un b).trans (pk_un a)
    have tx : ∀ u, u < 2 → TXO (mA 1) u → TXO (upd (upd (mA 1) (76 + w) v) 5 (nI (w + 1))) u := fun u hu ht => by
      unfold TXO at ht ⊢
      rw [uD (72 + u) (by omega) (by omega), PR_cg (b := fun j => upd (upd (mA 1) (76 + w) v) 5 (nI (w + 1)) (96 + 50 * u + j)) (b' := fun j => mA 1 (96 + 50 * u + j)) (fun j hj => uD _ (by omega) (by omega))]
      exact ht
    refine CI_d (n' := n) (k' := k) h (cif_f' g (by rw [ew, cl (by omega)])) ⟨(uD _ (by omega) (by omega)).trans hn, hn2, hn12, (uD _ (by omega) (by omega)).trans hk, hk8, fun j hj => ?_, by rw [uD _ (by omega) (by omega)]; exact g7, by rw [uD _ (by omega) (by omega)]; exact g8, ⟨w + 1, by omega, pk_us⟩, by rw [uD _ (by omega) (by omega)]; exact g10, by rw [uD _ (by omega) (by omega)]; exact g11, fun j hj => by rw [uD _ (by omega) (by omega)]; exact g12 j hj, fun j hj => by rw [uD _ (by omega) (by omega)]; exact g13 j hj⟩ (tx 0 (by omega) h.2.1) (tx 1 (by omega) h.2.2.1)
    have hg := hSG j hj
    unfold SG at hg ⊢
    rw [uD _ (by omega) (by omega), uD _ (by omega) (by omega), uD _ (by omega) (by omega), uD _ (by omega) (by omega), uD _ (by omega) (by omega), uD _ (by omega) (by omega), uD _ (by omega) (by omega)]
    exact hg
theorem byt_bd (x : Int64) (i : Nat) : bd (byt x i) 256 := by
  unfold byt
  refine ⟨(x >>> ((8 * nI i).toInt64 &&& 63)).toBitVec.toNat % 256, Nat.mod_lt _ (by decide), ?_⟩
  apply Int32.toBitVec_inj.mp
  apply BitVec.eq_of_getLsbD_eq
  intro j hj
  rw [Int64.toBitVec_toInt32, BitVec.getLsbD_signExtend, Int64.toBitVec_and, BitVec.getLsbD_and]
  generalize (x >>> ((8 * nI i).toInt64 &&& 63)).toBitVec = w
  have e2 : (Int64.toBitVec 255).getLsbD j = decide (j < 8) := b255 (n := 64) (by omega)
  have e3 : (nI (w.toNat % 256)).toBitVec = BitVec.ofNat 32 (w.toNat % 256) := rfl
  rw [e2, e3, BitVec.getLsbD_ofNat, show (256 : Nat) = 2 ^ 8 from rfl, Nat.testBit_mod_two_pow]
  simp [hj, show j < 64 by omega]
  exact Bool.and_comm _ _
theorem TXO_50 {D D' : Nat → Int32} {v : Nat} (h : TXO D v) (hb : (D (72 + v)).toNatClampNeg ≤ 50) (h1 : D' (72 + v) = D (72 + v)) (h2 : ∀ j, j < 50 → D' (96 + 50 * v + j) = D (96 + 50 * v + j)) : TXO D' v := by
  unfold TXO at h ⊢
  rw [h1, PR_cg (b := fun j => D' (96 + 50 * v + j)) (b' := fun j => D (96 + 50 * v + j)) (fun j hj => h2 j (by omega))]
  exact h
theorem i_feed {mA : XA} {mF : Nat → Int32} {n k : Nat} (h : CI mA mF n k) (x : Int64) (y : Int32) : ∃ n' k', CI (qfeed x y mA mF).2.1 (qfeed x y mA mF).2.2 n' k' := by
  obtain ⟨hn, hn2, hn12, hk, hk8, hSG, g7, ⟨f, hf, ef⟩, g9, g10, g11, g12, g13⟩ := id h.1
  by_cases g : 1 ≤ y ∧ y ≤ 8
  · by_cases b : 50 < mA 1 4 + y
    · exact CI_e (j := 4) h (cif_t' g (cif_t' b rfl))
    · obtain ⟨l, hl, el⟩ := rg (c := 8) (by omega) (show (0 : Int32) ≤ y from by
        have := g.1
        rw [fa_le] at this ⊢
        exact Int.le_trans (by decide) this) g.2
      have hfl : f + l ≤ 50 := by
        refine Classical.byContradiction (fun q => b ?_)
        rw [ef, el, nI_add]
        exact nI_lt (a := 50) (by omega) (by omega)
      have d4 : fedD (mA 1) x f l 4 = nI (f + l) := if_pos rfl
      have dD : ∀ j, j ≠ 4 → (j < 196 + f ∨ 196 + f + l ≤ j) → fedD (mA 1) x f l j = mA 1 j := fun j a b => by
        unfold fedD
        rw [if_neg a, if_neg (by omega)]
      have hb := DI_b h.1
      refine CI_d (n' := n) (k' := k) h (cif_t' g (cif_f' b (by rw [ef, el, cl (by omega), cl (by omega)]))) ⟨(dD _ (by omega) (by omega)).trans hn, hn2, hn12, (dD _ (by omega) (by omega)).trans hk, hk8, fun j hj => ?_, by rw [dD _ (by omega) (by omega)]; exact g7, ⟨f + l, by omega, d4⟩, by rw [dD _ (by omega) (by omega)]; exact g9, by rw [dD _ (by omega) (by omega)]; exact g10, by rw [dD _ (by omega) (by omega)]; exact g11, fun j hj => ?_, fun j hj => by rw [dD _ (by omega) (by omega)]; exact g13 j hj⟩ (TXO_50 h.2.1 (hb 0 (by omega)) (dD _ (by omega) (by omega)) (fun j hj => dD _ (by omega) (by omega))) (TXO_50 h.2.2.1 (hb 1 (by omega)) (dD _ (by omega) (by omega)) (fun j hj => dD _ (by omega) (by omega)))
      · have hg := hSG j hj
        unfold SG at hg ⊢
        rw [dD _ (by omega) (by omega), dD _ (by omega) (by omega), dD _ (by omega) (by omega), dD _ (by omega) (by omega), dD _ (by omega) (by omega), dD _ (by omega) (by omega), dD _ (by omega) (by omega)]
        exact hg
      · by_cases q : 196 + f ≤ 196 + j ∧ 196 + j < 196 + f + l
        · unfold fedD
          rw [if_neg (by omega), if_pos q]
          exact byt_bd _ _
        · rw [dD _ (by omega) (by omega)]
          exact g12 j hj
  · exact CI_e (j := 1) h (cif_f' g rfl)
theorem i_text {mA : XA} {mF : Nat → Int32} {n k : Nat} (h : CI mA mF n k) (x : Int32) : ∃ n' k', CI (qtext x mA mF).2.1 (qtext x mA mF).2.2 n' k' := by
  obtain ⟨hn, hn2, hn12, hk, hk8, hSG, g7, ⟨f, hf, ef⟩, g9, g10, g11, g12, g13⟩ := id h.1
  have eft : (mA 1 4).toNatClampNeg = f := by rw [ef, cl (by omega)]
  have u4 : ∀ j, j ≠ 4 → upd (mA 1) 4 0 j = mA 1 j := fun j hj => pk_un hj
  by_cases g : 0 ≤ x ∧ x ≤ 1
  · obtain ⟨v, hv, ev⟩ := rg (c := 1) (by omega) g.1 g.2
    have exv : x.toNatClampNeg = v := by rw [ev, cl (by omega)]
    by_cases b : (PR (bb mA 196) f v 0 0 0).1 = true ∧ (PR (bb mA 196) f v 0 0 0).2.1 = f
    · have hq : qtext x mA mF = (1, aset mA 1 (txtD (upd (mA 1) 4 0) v f f), mF) := by
        unfold qtext
        rw [eft, exv]
        exact cif_t' g (cif_t' b rfl)
      have td : ∀ j, j ≠ 72 + v → ¬ (96 + 50 * v ≤ j ∧ j < 96 + 50 * v + f) → txtD (upd (mA 1) 4 0) v f f j = upd (mA 1) 4 0 j := fun j a b => by
        unfold txtD
        rw [if_neg a, if_neg b]
      have t72 : txtD (upd (mA 1) 4 0) v f f (72 + v) = nI f := if_pos rfl
      have tt : ∀ j, j < f → txtD (upd (mA 1) 4 0) v f f (96 + 50 * v + j) = mA 1 (196 + j) := fun j hj => by
        unfold txtD
        rw [if_neg (by omega), if_pos (by omega), pk_un (by omega)]
        congr 1
        omega
      have hb := DI_b h.1
      have own : TXO (txtD (upd (mA 1) 4 0) v f f) v := by
        refine Or.inr ?_
        rw [t72, cl (by omega), PR_cg (b := fun j => txtD (upd (mA 1) 4 0) v f f (96 + 50 * v + j)) (b' := bb mA 196) (fun j hj => tt j hj)]
        exact b
      have oth : ∀ w, w < 2 → w ≠ v → TXO (mA 1) w → TXO (txtD (upd (mA 1) 4 0) v f f) w := fun w hw hne ht => TXO_50 ht (hb w hw) ((td _ (by omega) (by omega)).trans (u4 _ (by omega))) (fun j hj => (td _ (by omega) (by omega)).trans (u4 _ (by omega)))
      have both : TXO (txtD (upd (mA 1) 4 0) v f f) 0 ∧ TXO (txtD (upd (mA 1) 4 0) v f f) 1 := by
        have : v = 0 ∨ v = 1 := by omega
        rcases this with rfl | rfl
        · exact ⟨own, oth 1 (by omega) (by omega) h.2.2.1⟩
        · exact ⟨oth 0 (by omega) (by omega) h.2.1, own⟩
      have b72 : ∀ w, w < 2 → bd (mA 1 (72 + w)) 51 → bd (txtD (upd (mA 1) 4 0) v f f (72 + w)) 51 := fun w hw hbw => by
        by_cases q : w = v
        · rw [q, t72]
          exact ⟨f, by omega, rfl⟩
        · rw [td _ (by omega) (by omega), u4 _ (by omega)]
          exact hbw
      refine CI_d (n' := n) (k' := k) h hq ⟨((td _ (by omega) (by omega)).trans (u4 _ (by omega))).trans hn, hn2, hn12, ((td _ (by omega) (by omega)).trans (u4 _ (by omega))).trans hk, hk8, fun j hj => ?_, by rw [td _ (by omega) (by omega), u4 _ (by omega)]; exact g7, by rw [td _ (by omega) (by omega), pk_us]; exact ⟨0, by omega, rfl⟩, by rw [td _ (by omega) (by omega), u4 _ (by omega)]; exact g9, b72 0 (by omega) g10, b72 1 (by omega) g11, fun j hj => by rw [td _ (by omega) (by omega), u4 _ (by omega)]; exact g12 j hj, fun j hj => ?_⟩ both.1 both.2
      · have hg := hSG j hj
        unfold SG at hg ⊢
        rw [td _ (by omega) (by omega), td _ (by omega) (by omega), td _ (by omega) (by omega), td _ (by omega) (by omega), td _ (by omega) (by omega), td _ (by omega) (by omega), td _ (by omega) (by omega), u4 _ (by omega), u4 _ (by omega), u4 _ (by omega), u4 _ (by omega), u4 _ (by omega), u4 _ (by omega), u4 _ (by omega)]
        exact hg
      · by_cases q : 96 + 50 * v ≤ 96 + j ∧ 96 + j < 96 + 50 * v + f
        · have := tt (j - 50 * v) (by omega)
          rw [show 96 + 50 * v + (j - 50 * v) = 96 + j by omega] at this
          rw [this]
          exact g12 _ (by omega)
        · rw [td _ (by omega) q, u4 _ (by omega)]
          exact g13 j hj
    · have hq : qtext x mA mF = (-10 - nI (PR (bb mA 196) f v 0 0 0).2.1, aset mA 1 (upd (mA 1) 4 0), mF) := by
        unfold qtext
        rw [eft, exv]
        exact cif_t' g (cif_f' b rfl)
      refine CI_d (n' := n) (k' := k) h hq ⟨(u4 _ (by omega)).trans hn, hn2, hn12, (u4 _ (by omega)).trans hk, hk8, fun j hj => ?_, by rw [u4 _ (by omega)]; exact g7, by rw [pk_us]; exact ⟨0, by omega, rfl⟩, by rw [u4 _ (by omega)]; exact g9, by rw [u4 _ (by omega)]; exact g10, by rw [u4 _ (by omega)]; exact g11, fun j hj => by rw [u4 _ (by omega)]; exact g12 j hj, fun j hj => by rw [u4 _ (by omega)]; exact g13 j hj⟩ (TXO_72 h.2.1 (fun j hj => u4 j (by omega))) (TXO_72 h.2.2.1 (fun j hj => u4 j (by omega)))
      have hg := hSG j hj
      unfold SG at hg ⊢
      rw [u4 _ (by omega), u4 _ (by omega), u4 _ (by omega), u4 _ (by omega), u4 _ (by omega), u4 _ (by omega), u4 _ (by omega)]
      exact hg
  · exact CI_e (j := 1) h (cif_f' g rfl)
