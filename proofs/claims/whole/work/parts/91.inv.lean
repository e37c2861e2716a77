/-! ===== what lasts: the reference's data stay good ===== -/
theorem DI_sg {D D' : Nat → Int32} {n k : Nat} (h : DI D n k) (h1 : D' 1 = D 1) (h2 : D' 2 = D 2) (h0 : D' 0 = D 0) (h4 : D' 4 = D 4) (h5 : D' 5 = D 5) (h72 : ∀ j, 72 ≤ j → D' j = D j) (hs : ∀ i, i < k → SG D' n k i) : DI D' n k := by
  obtain ⟨g1, g2, g3, g4, g5, g6, g7, g8, g9, g10, g11, g12, g13⟩ := h
  exact ⟨h1.trans g1, g2, g3, h2.trans g4, g5, hs, by rw [h0]; exact g7, by rw [h4]; exact g8, by rw [h5]; exact g9, by rw [h72 72 (by omega)]; exact g10, by rw [h72 73 (by omega)]; exact g11, fun j hj => by rw [h72 _ (by omega)]; exact g12 j hj, fun j hj => by rw [h72 _ (by omega)]; exact g13 j hj⟩
theorem CI_ch {mA : XA} {mF D : Nat → Int32} {n k n' k' : Nat} (h : CI mA mF n k) (hI : DI D n' k') (h0 : TXO D 0) (h1 : TXO D 1) : CI (aset mA 1 D) mF n' k' := ⟨hI, h0, h1, h.2.2.2.1, h.2.2.2.2.1, h.2.2.2.2.2⟩
theorem CI_er {mA : XA} {mF : Nat → Int32} {n k : Nat} (h : CI mA mF n k) (j : Nat) : CI (er mA j) mF n k := h
theorem CI_e {mA : XA} {mF : Nat → Int32} {n k : Nat} {j : Nat} {q : XR} (h : CI mA mF n k) (e : q = eR j mA mF) : ∃ n' k', CI q.2.1 q.2.2 n' k' := ⟨n, k, by rw [e]; exact CI_er h j⟩
theorem CI_s {mA : XA} {mF : Nat → Int32} {n k : Nat} {v : Int32} {q : XR} (h : CI mA mF n k) (e : q = (v, mA, mF)) : ∃ n' k', CI q.2.1 q.2.2 n' k' := ⟨n, k, by rw [e]; exact h⟩
theorem CI_d {mA : XA} {mF D : Nat → Int32} {n k n' k' : Nat} {v : Int32} {q : XR} (h : CI mA mF n k) (e : q = (v, aset mA 1 D, mF)) (hI : DI D n' k') (h0 : TXO D 0) (h1 : TXO D 1) : ∃ n' k', CI q.2.1 q.2.2 n' k' := ⟨n', k', by rw [e]; exact CI_ch h hI h0 h1⟩
theorem isS_n' {d : Nat → Int32} {k : Nat} {s : Int32} (h : d 2 = nI k) (hk : k ≤ 8) (hs : isS d s) : ∃ i, i < k ∧ s = nI i := by
  refine Classical.byContradiction (fun q => ?_)
  exact isS_n h hk (fun i hi e => q ⟨i, hi, e⟩) hs
theorem isH_n' {s : Int32} (hs : isH s) : ∃ i, i < 4 ∧ s = nI i := by
  obtain ⟨i, hi, e⟩ := rg (c := 3) (by omega) hs.1 hs.2
  exact ⟨i, by omega, e⟩
theorem i_notes {mA : XA} {mF : Nat → Int32} {n k : Nat} (h : CI mA mF n k) (v : Int32) : ∃ n' k', CI (qnotes v mA mF).2.1 (qnotes v mA mF).2.2 n' k' := by
  obtain ⟨hn, hn2, hn12, hk, hk8, hSG, g7, g8, g9, g10, g11, g12, g13⟩ := id h.1
  by_cases g : 2 ≤ v ∧ v ≤ 12
  · by_cases b : ∃ i, i < (mA 1 2).toNatClampNeg ∧ (v ≤ mA 1 (8 + 8 * i + 2) ∨ v ≤ mA 1 (8 + 8 * i + 5))
    · exact CI_e (j := 3) h (cif_t' g (cif_t' b rfl))
    · obtain ⟨n', hn', en'⟩ := rg (c := 12) (by omega) (show (0 : Int32) ≤ v from by
        have := g.1
        rw [fa_le] at this ⊢
        exact Int.le_trans (by decide) this) g.2
      have hn'2 : 2 ≤ n' := by
        have := g.1
        rw [en', show (2 : Int32) = nI 2 from rfl, fa_le, nI_toInt (by omega), nI_toInt (by omega)] at this
        omega
      have u : ∀ j, j ≠ 1 → upd (mA 1) 1 v j = mA 1 j := fun j hj => pk_un hj
      have small : ∀ i, i < k → ∀ x, bd x n → ¬ v ≤ x → bd x n' := fun i hi x hx hv => by
        obtain ⟨a, ha, ea⟩ := hx
        refine ⟨a, ?_, ea⟩
        refine Classical.byContradiction (fun q => hv ?_)
        rw [ea, en']
        exact nI_le (by omega) (by omega)
      refine CI_d (n' := n') (k' := k) h (cif_t' g (cif_f' b rfl)) ⟨by rw [pk_us, en'], hn'2, hn', (u 2 (by omega)).trans hk, hk8, fun i hi => ?_, by rw [u 0 (by omega)]; exact g7, by rw [u 4 (by omega)]; exact g8, by rw [u 5 (by omega)]; exact g9, by rw [u 72 (by omega)]; exact g10, by rw [u 73 (by omega)]; exact g11, fun j hj => by rw [u _ (by omega)]; exact g12 j hj, fun j hj => by rw [u _ (by omega)]; exact g13 j hj⟩ (TXO_72 h.2.1 (fun j hj => u j (by omega))) (TXO_72 h.2.2.1 (fun j hj => u j (by omega)))
      have hg := hSG i hi
      have nb : ¬ (v ≤ mA 1 (8 + 8 * i + 2) ∨ v ≤ mA 1 (8 + 8 * i + 5)) := fun q => b ⟨i, by rw [hk, cl (by omega)]; exact hi, q⟩
      unfold SG at hg ⊢
      rw [u _ (by omega), u _ (by omega), u _ (by omega), u _ (by omega), u _ (by omega), u _ (by omega), u _ (by omega)]
      exact ⟨hg.1, hg.2.1, small i hi _ hg.2.2.1 (fun q => nb (Or.inl q)), hg.2.2.2.1, hg.2.2.2.2.1, hg.2.2.2.2.2.1.imp id (fun q => small i hi _ q (fun q2 => nb (Or.inr q2))), hg.2.2.2.2.2.2⟩
  · exact CI_e (j := 1) h (cif_f' g rfl)
theorem rl_bd {x y : Int32} (g : (0 ≤ x ∧ x ≤ 6) ∧ (0 ≤ y ∧ y ≤ 99)) : bd x 7 ∧ bd y 100 := by
  obtain ⟨a, ha, ea⟩ := rg (c := 6) (by omega) g.1.1 g.1.2
  obtain ⟨b, hb, eb⟩ := rg (c := 99) (by omega) g.2.1 g.2.2
  exact ⟨⟨a, by omega, ea⟩, ⟨b, by omega, eb⟩⟩
/-- those who hear as in the ring -/
theorem SG_hear {D : Nat → Int32} {n k : Nat} (hk : 0 < k) (hs : ∀ i, i < k → bd (D (8 + 8 * i)) 7 ∧ bd (D (8 + 8 * i + 1)) 100 ∧ bd (D (8 + 8 * i + 2)) n ∧ (¬ D (8 + 8 * i + 6) = 0 → bd (D (8 + 8 * i + 3)) k ∧ bd (D (8 + 8 * i + 4)) k) ∧ (D (8 + 8 * i + 5) = -1 ∨ bd (D (8 + 8 * i + 5)) n) ∧ bd (D (8 + 8 * i + 6)) 2) : ∀ i, i < k → SG (hearU D k k) n k i := by
  intro i hi
  obtain ⟨a0, a1, a2, a3, a5, a6⟩ := hs i hi
  have o : ∀ j, (∀ i, i < k → j ≠ 8 + 8 * i + 3 ∧ j ≠ 8 + 8 * i + 4) → hearU D k k j = D j := fun j hj => hearU_at hj
  unfold SG
  rw [o (8 + 8 * i) (fun i hi => by omega), o (8 + 8 * i + 1) (fun i hi => by omega), o (8 + 8 * i + 2) (fun i hi => by omega), o (8 + 8 * i + 5) (fun i hi => by omega), hearU_told, hearU_3 hi, hearU_4 hi]
  refine ⟨a0, a1, a2, ?_, ?_, a5, a6⟩
  · by_cases g : D (8 + 8 * i + 6) = 0
    · rw [cif_t g]
      exact ⟨_, Nat.mod_lt _ hk, rfl⟩
    · rw [cif_f g]
      exact (a3 g).1
  · by_cases g : D (8 + 8 * i + 6) = 0
    · rw [cif_t g]
      exact ⟨_, Nat.mod_lt _ hk, rfl⟩
    · rw [cif_f g]
      exact (a3 g).2
theorem i_singer {mA : XA} {mF : Nat → Int32} {n k : Nat} (h : CI mA mF n k) (x y : Int32) : ∃ n' k', CI (qsinger x y mA mF).2.1 (qsinger x y mA mF).2.2 n' k' := by
  obtain ⟨hn, hn2, hn12, hk, hk8, hSG, g7, g8, g9, g10, g11, g12, g13⟩ := id h.1
  by_cases g : (0 ≤ x ∧ x ≤ 6) ∧ (0 ≤ y ∧ y ≤ 99)
  · by_cases b : mA 1 2 = 8
    · exact CI_e (j := 4) h (cif_t' g (cif_t' b rfl))
    · have hk7 : k < 8 := by
        refine Classical.byContradiction (fun q => b ?_)
        rw [hk, show k = 8 by omega]
        rfl
      obtain ⟨bx, by'⟩ := rl_bd g
      have ek : (mA 1 2).toNatClampNeg = k := by rw [hk, cl (by omega)]
      have jD : ∀ j, j ≠ 8 + 8 * k + 0 → j ≠ 8 + 8 * k + 1 → j ≠ 8 + 8 * k + 2 → j ≠ 8 + 8 * k + 5 → j ≠ 8 + 8 * k + 6 → j ≠ 2 → joinD (mA 1) k x y j = mA 1 j := fun j a b d e f g => (pk_un g).trans ((pk_un f).trans ((pk_un e).trans ((pk_un d).trans ((pk_un b).trans (pk_un a)))))
      have hj0 : joinD (mA 1) k x y (8 + 8 * k) = x := (pk_un (by omega)).trans ((pk_un (by omega)).trans ((pk_un (by omega)).trans ((pk_un (by omega)).trans ((pk_un (by omega)).trans pk_us))))
      have hj1 : joinD (mA 1) k x y (8 + 8 * k + 1) = y := (pk_un (by omega)).trans ((pk_un (by omega)).trans ((pk_un (by omega)).trans ((pk_un (by omega)).trans pk_us)))
      have hj2 : joinD (mA 1) k x y (8 + 8 * k + 2) = 0 := (pk_un (by omega)).trans ((pk_un (by omega)).trans ((pk_un (by omega)).trans pk_us))
      have hj5 : joinD (mA 1) k x y (8 + 8 * k + 5) = -1 := (pk_un (by omega)).trans ((pk_un (by omega)).trans pk_us)
      have hj6 : joinD (mA 1) k x y (8 + 8 * k + 6) = 0 := (pk_un (by omega)).trans pk_us
      have hU : ∀ j, (j < 8 ∨ 72 ≤ j) → j ≠ 2 → hearU (joinD (mA 1) k x y) (k + 1) (k + 1) j = mA 1 j := fun j a b => (hearU_at (fun i hi => by omega)).trans (jD j (by omega) (by omega) (by omega) (by omega) (by omega) b)
      have hU2 : hearU (joinD (mA 1) k x y) (k + 1) (k + 1) 2 = nI (k + 1) := (hearU_at (fun i hi => by omega)).trans pk_us
      refine CI_d (n' := n) (k' := k + 1) h (cif_t' g (cif_f' b (by rw [ek]))) ⟨(hU 1 (by omega) (by omega)).trans hn, hn2, hn12, hU2, hk7, SG_hear (by omega) (fun i hi => ?_), by rw [hU 0 (by omega) (by omega)]; exact g7, by rw [hU 4 (by omega) (by omega)]; exact g8, by rw [hU 5 (by omega) (by omega)]; exact g9, by rw [hU 72 (by omega) (by omega)]; exact g10, by rw [hU 73 (by omega) (by omega)]; exact g11, fun j hj => by rw [hU _ (by omega) (by omega)]; exact g12 j hj, fun j hj => by rw [hU _ (by omega) (by omega)]; exact g13 j hj⟩ (TXO_72 h.2.1 (fun j hj => hU j (by omega) (by omega))) (TXO_72 h.2.2.1 (fun j hj => hU j (by omega) (by omega)))
      by_cases q : i = k
      · subst q
        rw [hj0, hj1, hj2, hj5, hj6]
        exact ⟨bx, by', ⟨0, by omega, rfl⟩, fun q => absurd rfl q, Or.inl rfl, ⟨0, by omega, rfl⟩⟩
      · have hik : i < k := by omega
        have hg := hSG i hik
        unfold SG at hg
        rw [jD _ (by omega) (by omega) (by omega) (by omega) (by omega) (by omega), jD _ (by omega) (by omega) (by omega) (by omega) (by omega) (by omega), jD _ (by omega) (by omega) (by omega) (by omega) (by omega) (by omega), jD _ (by omega) (by omega) (by omega) (by omega) (by omega) (by omega), jD _ (by omega) (by omega) (by omega) (by omega) (by omega) (by omega), jD _ (by omega) (by omega) (by omega) (by omega) (by omega) (by omega), jD _ (by omega) (by omega) (by omega) (by omega) (by omega) (by omega)]
        have up : ∀ x, bd x k → bd x (k + 1) := fun x ⟨a, ha, ea⟩ => ⟨a, by omega, ea⟩
        exact ⟨hg.1, hg.2.1, hg.2.2.1, fun _ => ⟨up _ hg.2.2.2.1, up _ hg.2.2.2.2.1⟩, hg.2.2.2.2.2.1, hg.2.2.2.2.2.2⟩
  · exact CI_e (j := 1) h (cif_f' g rfl)
theorem i_rule {mA : XA} {mF : Nat → Int32} {n k : Nat} (h : CI mA mF n k) (s x y : Int32) : ∃ n' k', CI (qrule s x y mA mF).2.1 (qrule s x y mA mF).2.2 n' k' := by
  obtain ⟨hn, hn2, hn12, hk, hk8, hSG, _⟩ := id h.1
  by_cases g : isS (mA 1) s ∧ (0 ≤ x ∧ x ≤ 6) ∧ (0 ≤ y ∧ y ≤ 99)
  · obtain ⟨i, hi, e⟩ := isS_n' hk hk8 g.1
    subst e
    obtain ⟨bx, by'⟩ := rl_bd g.2
    exact CI_d h (cif_t' g (by rw [cl (by omega)])) (DIk h.1 hi bx by') (TXOk h.2.1 (by omega) _ _) (TXOk h.2.2.1 (by omega) _ _)
  · exact CI_e (j := 1) h (cif_f' g rfl)
theorem i_net {mA : XA} {mF : Nat → Int32} {n k : Nat} (h : CI mA mF n k) (s x y : Int32) : ∃ n' k', CI (qnet s x y mA mF).2.1 (qnet s x y mA mF).2.2 n' k' := by
  obtain ⟨hn, hn2, hn12, hk, hk8, hSG, _⟩ := id h.1
  by_cases g : isS (mA 1) s ∧ isS (mA 1) x ∧ isS (mA 1) y
  · obtain ⟨i, hi, e⟩ := isS_n' hk hk8 g.1
    obtain ⟨f, hf, ef⟩ := isS_n' hk hk8 g.2.1
    obtain ⟨e2, he2, ee2⟩ := isS_n' hk hk8 g.2.2
    have uD : ∀ j, j ≠ 8 + 8 * i + 3 → j ≠ 8 + 8 * i + 4 → j ≠ 8 + 8 * i + 6 → upd (upd (upd (mA 1) (8 + 8 * i + 3) x) (8 + 8 * i + 4) y) (8 + 8 * i + 6) 1 j = mA 1 j := fun j a b d => (pk_un d).trans ((pk_un b).trans (pk_un a))
    refine CI_d h (cif_t' g (by rw [e, cl (by omega)])) (DI_sg h.1 (uD _ (by omega) (by omega) (by omega)) (uD _ (by omega) (by omega) (by omega)) (uD _ (by omega) (by omega) (by omega)) (uD _ (by omega) (by omega) (by omega)) (uD _ (by omega) (by omega) (by omega)) (fun j hj => uD j (by omega) (by omega) (by omega)) (fun j hj => ?_)) (TXO_72 h.2.1 (fun j hj => uD j (by omega) (by omega) (by omega))) (TXO_72 h.2.2.1 (fun j hj => uD j (by omega) (by omega) (by omega)))
    have hg := hSG j hj
    unfold SG at hg ⊢
    rw [uD (8 + 8 * j) (by omega) (by omega) (by omega), uD (8 + 8 * j + 1) (by omega) (by omega) (by omega), uD (8 + 8 * j + 2) (by omega) (by omega) (by omega), uD (8 + 8 * j + 5) (by omega) (by omega) (by omega)]
    refine ⟨hg.1, hg.2.1, hg.2.2.1, ?_, ?_, hg.2.2.2.2.2.1, ?_⟩
    · by_cases q : j = i
      · subst q
        rw [pk_un (by omega), pk_un (by omega), pk_us]
        exact ⟨f, hf, ef⟩
      · rw [uD _ (by omega) (by omega) (by omega)]
        exact hg.2.2.2.1
    · by_cases q : j = i
      · subst q
        rw [pk_un (by omega), pk_us]
        exact ⟨e2, he2, ee2⟩
      · rw [uD _ (by omega) (by omega) (by omega)]
        exact hg.2.2.2.2.1
    · by_cases q : j = i
      · subst q
        rw [pk_us]
        exact ⟨1, by omega, rfl⟩
      · rw [uD _ (by omega) (by omega) (by omega)]
        exact hg.2.2.2.2.2.2
  · exact CI_e (j := 1) h (cif_f' g rfl)
theorem i_ring {mA : XA} {mF : Nat → Int32} {n k : Nat} (h : CI mA mF n k) (s : Int32) : ∃ n' k', CI (qring s mA mF).2.1 (qring s mA mF).2.2 n' k' := by
  obtain ⟨hn, hn2, hn12, hk, hk8, hSG, _⟩ := id h.1
  by_cases g : isS (mA 1) s
  · obtain ⟨i, hi, e⟩ := isS_n' hk hk8 g
    have hU : ∀ j, (j < 8 ∨ 72 ≤ j) → hearU (upd (mA 1) (8 + 8 * i + 6) 0) k k j = mA 1 j := fun j a => (hearU_at (fun i hi => by omega)).trans (pk_un (by omega))
    refine CI_d h (cif_t' g (by rw [e, cl (by omega), hk, cl (by omega)])) (DI_sg h.1 (hU _ (by omega)) (hU _ (by omega)) (hU _ (by omega)) (hU _ (by omega)) (hU _ (by omega)) (fun j hj => hU j (by omega)) (SG_hear (by omega) (fun j hj => ?_))) (TXO_72 h.2.1 (fun j hj => hU j (by omega))) (TXO_72 h.2.2.1 (fun j hj => hU j (by omega)))
    have hg := hSG j hj
    unfold SG at hg
    rw [pk_un (show 8 + 8 * j ≠ 8 + 8 * i + 6 by omega), pk_un (show 8 + 8 * j + 1 ≠ 8 + 8 * i + 6 by omega), pk_un (show 8 + 8 * j + 2 ≠ 8 + 8 * i + 6 by omega), pk_un (show 8 + 8 * j + 3 ≠ 8 + 8 * i + 6 by omega), pk_un (show 8 + 8 * j + 4 ≠ 8 + 8 * i + 6 by omega), pk_un (show 8 + 8 * j + 5 ≠ 8 + 8 * i + 6 by omega)]
    refine ⟨hg.1, hg.2.1, hg.2.2.1, fun _ => ⟨hg.2.2.2.1, hg.2.2.2.2.1⟩, hg.2.2.2.2.2.1, ?_⟩
    by_cases q : j = i
    · subst q
      rw [pk_us]
      exact ⟨0, by omega, rfl⟩
    · rw [pk_un (by omega)]
      exact hg.2.2.2.2.2.2
  · exact CI_e (j := 1) h (cif_f' g rfl)
