/-! ===== what lasts: the calls that only ask ===== -/
theorem IC_c {c : Prop} {a b : XR} (ha : ∃ n' k', CI a.2.1 a.2.2 n' k') (hb : ∃ n' k', CI b.2.1 b.2.2 n' k') : ∃ n' k', CI (cif c a b).2.1 (cif c a b).2.2 n' k' := by
  by_cases g : c
  · rw [cif_t g]
    exact ha
  · rw [cif_f g]
    exact hb
theorem IC_s {mA : XA} {mF : Nat → Int32} {n k : Nat} (h : CI mA mF n k) {v : Int32} : ∃ n' k', CI (v, mA, mF).2.1 (v, mA, mF).2.2 n' k' := ⟨n, k, h⟩
theorem IC_e {mA : XA} {mF : Nat → Int32} {n k : Nat} (h : CI mA mF n k) {j : Nat} : ∃ n' k', CI (eR j mA mF).2.1 (eR j mA mF).2.2 n' k' := ⟨n, k, CI_er h j⟩
theorem i_ofSinger {mA : XA} {mF : Nat → Int32} {n k : Nat} (h : CI mA mF n k) (s w : Int32) : ∃ n' k', CI (qofSinger s w mA mF).2.1 (qofSinger s w mA mF).2.2 n' k' := IC_c (IC_c (IC_s h) (IC_c (IC_s h) (IC_c (IC_s h) (IC_s h)))) (IC_e h)
theorem i_as {mA : XA} {mF : Nat → Int32} {n k : Nat} (h : CI mA mF n k) (s w : Int32) : ∃ n' k', CI (qas s w mA mF).2.1 (qas s w mA mF).2.2 n' k' := IC_c (IC_c (IC_s h) (IC_e h)) (IC_e h)
theorem i_law {mA : XA} {mF : Nat → Int32} {n k : Nat} (h : CI mA mF n k) (u a b c e : Int32) : ∃ n' k', CI (qlaw u a b c e mA mF).2.1 (qlaw u a b c e mA mF).2.2 n' k' := IC_c (IC_s h) (IC_c (IC_s h) (IC_e h))
theorem i_far {mA : XA} {mF : Nat → Int32} {n k : Nat} (h : CI mA mF n k) (m s : Int32) : ∃ n' k', CI (qfar m s mA mF).2.1 (qfar m s mA mF).2.2 n' k' := IC_c (IC_s h) (IC_e h)
theorem i_worths {mA : XA} {mF : Nat → Int32} {n k : Nat} (h : CI mA mF n k) (m : Int32) : ∃ n' k', CI (qworths m mA mF).2.1 (qworths m mA mF).2.2 n' k' := IC_c (IC_s h) (IC_e h)
theorem i_round {mA : XA} {mF : Nat → Int32} {n k : Nat} (h : CI mA mF n k) (w : Int32) : ∃ n' k', CI (qround w mA mF).2.1 (qround w mA mF).2.2 n' k' := IC_c (IC_c (IC_e h) (IC_s h)) (IC_e h)
theorem i_beginnings {mA : XA} {mF : Nat → Int32} {n k : Nat} (h : CI mA mF n k) (m w : Int32) : ∃ n' k', CI (qbeginnings m w mA mF).2.1 (qbeginnings m w mA mF).2.2 n' k' := IC_c (IC_c (IC_s h) (IC_e h)) (IC_e h)
theorem i_best {mA : XA} {mF : Nat → Int32} {n k : Nat} (h : CI mA mF n k) (m : Int32) : ∃ n' k', CI (qbest m mA mF).2.1 (qbest m mA mF).2.2 n' k' := IC_c (IC_c (IC_s h) (IC_e h)) (IC_e h)
theorem i_before {mA : XA} {mF : Nat → Int32} {n k : Nat} (h : CI mA mF n k) (w : Int32) : ∃ n' k', CI (qbefore w mA mF).2.1 (qbefore w mA mF).2.2 n' k' := IC_c (IC_c (IC_s h) (IC_e h)) (IC_e h)
theorem i_never {mA : XA} {mF : Nat → Int32} {n k : Nat} (h : CI mA mF n k) : ∃ n' k', CI (qnever mA mF).2.1 (qnever mA mF).2.2 n' k' := IC_c (IC_s h) (IC_e h)
theorem i_rings {mA : XA} {mF : Nat → Int32} {n k : Nat} (h : CI mA mF n k) (w : Int32) : ∃ n' k', CI (qrings w mA mF).2.1 (qrings w mA mF).2.2 n' k' := IC_c (IC_c (IC_s h) (IC_e h)) (IC_e h)
theorem i_fewest {mA : XA} {mF : Nat → Int32} {n k : Nat} (h : CI mA mF n k) (s : Int32) : ∃ n' k', CI (qfewest s mA mF).2.1 (qfewest s mA mF).2.2 n' k' := IC_c (IC_c (IC_e h) (IC_s h)) (IC_e h)
theorem i_made {mA : XA} {mF : Nat → Int32} {n k : Nat} (h : CI mA mF n k) (a s : Int32) : ∃ n' k', CI (qmade a s mA mF).2.1 (qmade a s mA mF).2.2 n' k' := IC_c (IC_c (IC_e h) (IC_c (IC_e h) (IC_s h))) (IC_e h)
theorem i_heard {mA : XA} {mF : Nat → Int32} {n k : Nat} (h : CI mA mF n k) (s x m : Int32) : ∃ n' k', CI (qheard s x m mA mF).2.1 (qheard s x m mA mF).2.2 n' k' := IC_c (IC_s h) (IC_e h)
theorem i_gone {mA : XA} {mF : Nat → Int32} {n k : Nat} (h : CI mA mF n k) (s x : Int32) : ∃ n' k', CI (qgone s x mA mF).2.1 (qgone s x mA mF).2.2 n' k' := IC_c (IC_c (IC_e h) (IC_s h)) (IC_e h)
theorem i_tune {mA : XA} {mF : Nat → Int32} {n k : Nat} (h : CI mA mF n k) (s : Int32) : ∃ n' k', CI (qtune s mA mF).2.1 (qtune s mA mF).2.2 n' k' := IC_c (IC_c (IC_e h) (IC_c (IC_e h) (IC_s h))) (IC_e h)
theorem i_longer {mA : XA} {mF : Nat → Int32} {n k : Nat} (h : CI mA mF n k) (w : Int32) : ∃ n' k', CI (qlonger w mA mF).2.1 (qlonger w mA mF).2.2 n' k' := IC_c (IC_c (IC_e h) (IC_s h)) (IC_e h)
theorem i_trace {mA : XA} {mF : Nat → Int32} {n k : Nat} (h : CI mA mF n k) (i : Int32) : ∃ n' k', CI (qtrace i mA mF).2.1 (qtrace i mA mF).2.2 n' k' := IC_c (IC_s h) (IC_e h)
theorem i_count {mA : XA} {mF : Nat → Int32} {n k : Nat} (h : CI mA mF n k) (w : Int32) : ∃ n' k', CI (qcount w mA mF).2.1 (qcount w mA mF).2.2 n' k' := IC_c (IC_s h) (IC_c (IC_s h) (IC_c (IC_s h) (IC_c (IC_s h) (IC_c (IC_s h) (IC_c (IC_s h) (IC_c (IC_s h) (IC_c (IC_s h) (IC_e h))))))))
theorem i_told {mA : XA} {mF : Nat → Int32} {n k : Nat} (h : CI mA mF n k) (j : Int32) : ∃ n' k', CI (qtold j mA mF).2.1 (qtold j mA mF).2.2 n' k' := IC_c (IC_s h) (IC_e h)
