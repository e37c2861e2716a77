/-! ===== what lasts: bars, images, sheets, voices; the rest ===== -/
theorem itr_bd {D : Nat → Int32} {n k : Nat} (hI : DI D n k) : ∀ m i, i < k → bd (itr D k m (nw D) i) n
  | 0, i, hi => (hI.2.2.2.2.2.1 i hi).2.2.1
  | m + 1, i, hi => stp_bd hI.1 hI.2.1 hI.2.2.1 _ i hi
theorem i_bars {mA : XA} {mF : Nat → Int32} {n k : Nat} (h : CI mA mF n k) (x : Int32) : ∃ n' k', CI (qbars x mA mF).2.1 (qbars x mA mF).2.2 n' k' := by
  obtain ⟨hn, hn2, hn12, hk, hk8, hSG, ⟨b0, hb0, eb0⟩, _⟩ := id h.1
  by_cases g : 1 ≤ x ∧ x ≤ 500
  · by_cases b : 999999 < mA 1 0 + x
    · exact CI_e (j := 3) h (cif_t' g (cif_t' b rfl))
    · obtain ⟨l, hl, el⟩ := rg (c := 500) (by omega) (show (0 : Int32) ≤ x from by
        have := g.1
        rw [fa_le] at this ⊢
        exact Int.le_trans (by decide) this) g.2
      have hbl : b0 + l ≤ 999999 := by
        refine Classical.byContradiction (fun q => b ?_)
        rw [eb0, el, nI_add]
        exact nI_lt (a := 999999) (by omega) (by omega)
      refine CI_d (v := mA 1 0 + x) (D := ND (mA 1) (itr (mA 1) k l (nw (mA 1))) k (mA 1 0 + x) (mA 1 3)) h (cif_t' g (cif_f' b ?_)) (DI_nd h.1 (fun i hi => itr_bd h.1 l i hi) ⟨b0 + l, by omega, by rw [eb0, el, nI_add]⟩) (TXO_72 h.2.1 (fun j hj => nd_72 hk8 hj)) (TXO_72 h.2.2.1 (fun j hj => nd_72 hk8 hj))
      unfold ND
      rw [hk, cl (by omega), el, cl (by omega), upd_id]
  · exact CI_e (j := 1) h (cif_f' g rfl)
theorem lsI_bd {D : Nat → Int32} {n k : Nat} (hI : DI D n k) (p : Int32) : ∀ i j, j < k → bd ((lsI D k p i).1 j) n := by
  obtain ⟨hn, hn2, hn12, _⟩ := id hI
  intro i
  induction i with
  | zero => exact fun j hj => (hI.2.2.2.2.2.1 j hj).2.2.1
  | succ i ih =>
    intro j hj
    show bd ((cif (rm (drO (dr1 (dr1 (lsI D k p i).2))) 100 < p) (upd (stp D k (lsI D k p i).1) (sx k (lsI D k p i).2) (rm (stp D k (lsI D k p i).1 (sx k (lsI D k p i).2) + 1) (D 1))) (stp D k (lsI D k p i).1)) j) n
    by_cases g : rm (drO (dr1 (dr1 (lsI D k p i).2))) 100 < p
    · rw [cif_t g]
      by_cases q : j = sx k (lsI D k p i).2
      · rw [← q, pk_us]
        obtain ⟨v, hv, ev⟩ := stp_bd hn hn2 hn12 (lsI D k p i).1 j hj
        rw [ev, hn]
        unfold rm
        rw [nI_1, pk_rem (by omega) (by omega) (by omega)]
        exact ⟨_, Nat.mod_lt _ (by omega), rfl⟩
      · rw [pk_un q]
        exact stp_bd hn hn2 hn12 _ j hj
    · rw [cif_f g]
      exact stp_bd hn hn2 hn12 _ j hj
theorem i_loose {mA : XA} {mF : Nat → Int32} {n k : Nat} (h : CI mA mF n k) (x p : Int32) : ∃ n' k', CI (qloose x p mA mF).2.1 (qloose x p mA mF).2.2 n' k' := by
  obtain ⟨hn, hn2, hn12, hk, hk8, hSG, ⟨b0, hb0, eb0⟩, _⟩ := id h.1
  by_cases g : (1 ≤ x ∧ x ≤ 500) ∧ (0 ≤ p ∧ p ≤ 100)
  · by_cases b : 999999 < mA 1 0 + x ∨ mA 1 2 = 0
    · exact CI_e (j := 3) h (cif_t' g (cif_t' b rfl))
    · obtain ⟨l, hl, el⟩ := rg (c := 500) (by omega) (show (0 : Int32) ≤ x from by
        have := g.1.1
        rw [fa_le] at this ⊢
        exact Int.le_trans (by decide) this) g.1.2
      have hbl : b0 + l ≤ 999999 := by
        refine Classical.byContradiction (fun q => b (Or.inl ?_))
        rw [eb0, el, nI_add]
        exact nI_lt (a := 999999) (by omega) (by omega)
      refine CI_d (v := mA 1 0 + x) (D := ND (mA 1) (lsI (mA 1) k p l).1 k (mA 1 0 + x) (lsI (mA 1) k p l).2) h (cif_t' g (cif_f' b ?_)) (DI_nd h.1 (fun i hi => lsI_bd h.1 p l i hi) ⟨b0 + l, by omega, by rw [eb0, el, nI_add]⟩) (TXO_72 h.2.1 (fun j hj => nd_72 hk8 hj)) (TXO_72 h.2.2.1 (fun j hj => nd_72 hk8 hj))
      unfold ND
      rw [hk, cl (by omega), el, cl (by omega)]
  · exact CI_e (j := 1) h (cif_f' g rfl)
theorem DI_cp {D D' : Nat → Int32} {n k : Nat} (h : DI D n k) (hD : ∀ j, j < 250 → D' j = D j) : DI D' n k := by
  obtain ⟨g1, g2, g3, g4, g5, g6, g7, g8, g9, g10, g11, g12, g13⟩ := h
  refine ⟨(hD 1 (by omega)).trans g1, g2, g3, (hD 2 (by omega)).trans g4, g5, fun i hi => ?_, by rw [hD _ (by omega)]; exact g7, by rw [hD _ (by omega)]; exact g8, by rw [hD _ (by omega)]; exact g9, by rw [hD _ (by omega)]; exact g10, by rw [hD _ (by omega)]; exact g11, fun j hj => by rw [hD _ (by omega)]; exact g12 j hj, fun j hj => by rw [hD _ (by omega)]; exact g13 j hj⟩
  have hg := g6 i hi
  unfold SG at hg ⊢
  rw [hD _ (by omega), hD _ (by omega), hD _ (by omega), hD _ (by omega), hD _ (by omega), hD _ (by omega), hD _ (by omega)]
  exact hg
theorem i_restore {mA : XA} {mF : Nat → Int32} {n k : Nat} (h : CI mA mF n k) : ∃ n' k', CI (qrestore mA mF).2.1 (qrestore mA mF).2.2 n' k' := by
  by_cases g : mF 2 = 0
  · exact CI_e (j := 2) h (cif_t' g rfl)
  · obtain ⟨n', k', hI, h0, h1⟩ := h.2.2.2.2.2.resolve_left g
    have hb := DI_b hI
    exact CI_d h (cif_f' g rfl) (DI_cp hI (fun j hj => cpl hj)) (TXO_50 h0 (hb 0 (by omega)) (cpl (by omega)) (fun j hj => cpl (by omega))) (TXO_50 h1 (hb 1 (by omega)) (cpl (by omega)) (fun j hj => cpl (by omega)))
theorem i_image {mA : XA} {mF : Nat → Int32} {n k : Nat} (h : CI mA mF n k) : ∃ n' k', CI (qimage mA mF).2.1 (qimage mA mF).2.2 n' k' := by
  have hb := DI_b h.1
  have d0 : DI (cp (mA 1) (mA 2)) n k := DI_cp h.1 (fun j hj => cpl hj)
  have d1 : TXO (cp (mA 1) (mA 2)) 0 := TXO_50 h.2.1 (hb 0 (by omega)) (cpl (by omega)) (fun j hj => cpl (by omega))
  have d2 : TXO (cp (mA 1) (mA 2)) 1 := TXO_50 h.2.2.1 (hb 1 (by omega)) (cpl (by omega)) (fun j hj => cpl (by omega))
  exact ⟨n, k, h.1, h.2.1, h.2.2.1, h.2.2.2.1, h.2.2.2.2.1, Or.inr ⟨n, k, d0, d1, d2⟩⟩
theorem i_check {mA : XA} {mF : Nat → Int32} {n k : Nat} (h : CI mA mF n k) (s : Int32) : ∃ n' k', CI (qcheck s mA mF).2.1 (qcheck s mA mF).2.2 n' k' := by
  have h5 : CI (aset mA 1 (upd (mA 1) 5 0)) mF n k := CI_ch h (DI5 h.1) (TXO5 h.2.1) (TXO5 h.2.2.1)
  by_cases g : isS (mA 1) s
  · exact CI_s h5 (cif_t' g rfl)
  · exact CI_e (j := 1) h5 (cif_f' g rfl)
theorem i_sheet {mA : XA} {mF : Nat → Int32} {n k : Nat} (h : CI mA mF n k) (s b z : Int32) : ∃ n' k', CI (qsheet s b z mA mF).2.1 (qsheet s b z mA mF).2.2 n' k' := by
  by_cases g : isH s ∧ isB b
  · by_cases g1 : ¬ b = 0 ∧ z < 0
    · exact CI_e (j := 3) h (cif_t' g (cif_t' g1 rfl))
    · by_cases g2 : ¬ b = 0 ∧ 40 < z
      · exact CI_e (j := 1) h (cif_t' g (cif_f' g1 (cif_t' g2 rfl)))
      · obtain ⟨i, hi, e⟩ := isH_n' g.1
        have hq : qsheet s b z mA mF = (1, aset (aset (aset mA 15 (upd (mA 15) s.toNatClampNeg b)) 16 (upd (mA 16) s.toNatClampNeg (cif (b = 0) 0 z))) 17 (fun j => if 40 * s.toNatClampNeg ≤ j ∧ j < 40 * s.toNatClampNeg + 40 then 0 else mA 17 j), mF) := cif_t' g (cif_f' g1 (cif_f' g2 rfl))
        refine ⟨n, k, ?_⟩
        rw [hq]
        refine ⟨h.1, h.2.1, h.2.2.1, fun j hj => ?_, h.2.2.2.2.1, h.2.2.2.2.2⟩
        show bd (upd (mA 16) s.toNatClampNeg (cif (b = 0) 0 z) j) 41
        by_cases q : j = s.toNatClampNeg
        · rw [q, pk_us]
          by_cases b0 : b = 0
          · rw [cif_t b0]
            exact ⟨0, by omega, rfl⟩
          · rw [cif_f b0]
            obtain ⟨a, ha, ea⟩ := rg (c := 40) (by omega) (fa_of_nlt (fun q => g1 ⟨b0, q⟩)) (fa_of_nlt (fun q => g2 ⟨b0, q⟩))
            exact ⟨a, by omega, ea⟩
        · rw [pk_un q]
          exact h.2.2.2.1 j hj
  · exact CI_e (j := 1) h (cif_f' g rfl)
theorem i_put {mA : XA} {mF : Nat → Int32} {n k : Nat} (h : CI mA mF n k) (s i v : Int32) : ∃ n' k', CI (qput s i v mA mF).2.1 (qput s i v mA mF).2.2 n' k' := by
  by_cases g : isH s
  · by_cases g1 : mA 15 s.toNatClampNeg = 0
    · exact CI_e (j := 2) h (cif_t' g (cif_t' g1 rfl))
    · by_cases g2 : 0 ≤ i ∧ i ≤ mA 16 s.toNatClampNeg - 1
      · refine ⟨n, k, ?_⟩
        have hq : qput s i v mA mF = (1, aset mA 17 (upd (mA 17) (40 * s.toNatClampNeg + i.toNatClampNeg) (low (mA 15 s.toNatClampNeg) v)), mF) := cif_t' g (cif_f' g1 (cif_t' g2 rfl))
        rw [hq]
        exact h
      · exact CI_e (j := 1) h (cif_t' g (cif_f' g1 (cif_f' g2 rfl)))
  · exact CI_e (j := 1) h (cif_f' g rfl)
theorem i_move {mA : XA} {mF : Nat → Int32} {n k : Nat} (h : CI mA mF n k) (s i o j m : Int32) : ∃ n' k', CI (qmove s i o j m mA mF).2.1 (qmove s i o j m mA mF).2.2 n' k' := by
  by_cases g : isH s ∧ isH o
  · by_cases g1 : mA 15 s.toNatClampNeg = 0 ∨ mA 15 o.toNatClampNeg = 0
    · exact CI_e (j := 2) h (cif_t' g (cif_t' g1 rfl))
    · by_cases g2 : mA 15 s.toNatClampNeg = mA 15 o.toNatClampNeg
      · by_cases g3 : m < 0 ∨ i < 0 ∨ j < 0 ∨ mA 16 s.toNatClampNeg - i < m ∨ mA 16 o.toNatClampNeg - j < m
        · exact CI_e (j := 1) h (cif_t' g (cif_f' g1 (cif_t' g2 (cif_t' g3 rfl))))
        · refine ⟨n, k, ?_⟩
          have hq : qmove s i o j m mA mF = (m, aset mA 17 (va_cpy (mA 17) (mA 17) (40 * s.toNatClampNeg + i.toNatClampNeg) (40 * o.toNatClampNeg + j.toNatClampNeg) m.toNatClampNeg), mF) := cif_t' g (cif_f' g1 (cif_t' g2 (cif_f' g3 rfl)))
          rw [hq]
          exact h
      · exact CI_e (j := 5) h (cif_t' g (cif_f' g1 (cif_f' g2 rfl)))
  · exact CI_e (j := 1) h (cif_f' g rfl)
theorem i_voice {mA : XA} {mF : Nat → Int32} {n k : Nat} (h : CI mA mF n k) (s y z : Int32) : ∃ n' k', CI (qvoice s y z mA mF).2.1 (qvoice s y z mA mF).2.2 n' k' := by
  obtain ⟨hn, hn2, hn12, hk, hk8, hSG, _⟩ := id h.1
  by_cases g : isS (mA 1) s ∧ (0 ≤ y ∧ y ≤ 3)
  · obtain ⟨i, hi, e⟩ := isS_n' hk hk8 g.1
    obtain ⟨act, hact, eact⟩ := rg (c := 3) (by omega) g.2.1 g.2.2
    obtain ⟨a, ha, ea⟩ := (hSG i hi).1
    have ea : mA 1 (8 + 8 * i + 0) = nI a := ea
    have hq : qvoice s y z mA mF = gv act i a (mA 1 (8 + 8 * i + 1)) a z (mA, fset (fset mF 24 0) 25 s) := by
      refine cif_t' g ?_
      rw [e, eact, cl (by omega)]
      unfold vox
      rw [ea, cl (by omega)]
      rcases q4 (show act < 4 by omega) with rfl | rfl | rfl | rfl
      · exact cif_t rfl
      · exact (cif_f (show ¬ nI 1 = 0 by decide)).trans (cif_t rfl)
      · exact (cif_f (show ¬ nI 2 = 0 by decide)).trans ((cif_f (show ¬ nI 2 = 1 by decide)).trans (cif_t rfl))
      · exact (cif_f (show ¬ nI 3 = 0 by decide)).trans ((cif_f (show ¬ nI 3 = 1 by decide)).trans (cif_f (show ¬ nI 3 = 2 by decide)))
    have hb := bd_gv (σ := (mA, fset (fset mF 24 0) 25 s)) ⟨0, by omega, rfl⟩ act i a (mA 1 (8 + 8 * i + 1)) a z
    have hv := VP_gv (σ := (mA, fset (fset mF 24 0) 25 s)) act i a (mA 1 (8 + 8 * i + 1)) a z
    rw [← hq] at hb hv
    have k1 : ∀ p, p ≠ 14 → (qvoice s y z mA mF).2.1 p = mA p := hv.1
    have k2 : (qvoice s y z mA mF).2.2 2 = mF 2 := (hv.2 2 (by omega)).trans ((fsN (F := fset mF 24 0) (p := 2) (q := 25) (x := s) (by omega)).trans (fsN (F := mF) (p := 2) (q := 24) (x := 0) (by omega)))
    refine ⟨n, k, ?_, ?_, ?_, fun j hj => ?_, hb, ?_⟩
    · rw [k1 1 (by omega)]
      exact h.1
    · rw [k1 1 (by omega)]
      exact h.2.1
    · rw [k1 1 (by omega)]
      exact h.2.2.1
    · rw [k1 16 (by omega)]
      exact h.2.2.2.1 j hj
    · rw [k1 2 (by omega), k2]
      exact h.2.2.2.2.2
  · exact CI_e (j := 1) h (cif_f' g rfl)
/-- of what stays from call to call alone -/
theorem CI_per {A B : XA} {F G : Nat → Int32} {n k : Nat} (hp : per A F B G) (h : CI A F n k) : CI B G n k := by
  obtain ⟨p1, p2, p3, p14, p15, p16, p17, q2, q24⟩ := hp
  unfold CI at h ⊢
  unfold SI at h ⊢
  rw [p1, p2, p16, q2, q24]
  exact h
theorem Rel_per {A B : XA} {F G : Nat → Int32} {X : XA} {Y : Nat → Int32} (hp : per A F B G) (h : Rel A F X Y) : Rel B G X Y := by
  obtain ⟨p1, p2, p3, p14, p15, p16, p17, q2, q24⟩ := hp
  unfold Rel at h ⊢
  rw [p1, p2, p3, p14, p15, p16, p17, q2, q24]
  exact h
