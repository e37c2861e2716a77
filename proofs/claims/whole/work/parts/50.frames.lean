/-! ===== worlds by closed descriptions: frames by a closed check ===== -/
abbrev DC : Type := (Nat × Nat) ⊕ ((Nat × Nat) ⊕ (Nat × List (Nat × Nat)))
def fv (F : Nat → Int32) : Nat × Nat → Value
  | (0, k) => .ref k
  | (1, k) => .int (F k)
  | (_, k) => .retAddr k
def ce (A : XA) (F : Nat → Int32) (p : Nat) : DC → va_E
  | .inl (t, n) => .inl (t, n, .inl (A p))
  | .inr (.inl (n, b)) => .inl (2, n, .inr (.inr (.inr (.inr (KT n b)))))
  | .inr (.inr (ci, fs)) => .inr (ci, fs.map (fv F))
def dn (A : XA) (F : Nat → Int32) : Nat → List DC → XW
  | _, [] => []
  | p, c :: r => ce A F p c :: dn A F (p + 1) r
theorem dn_get (A : XA) (F : Nat → Int32) : ∀ (D : List DC) (p j : Nat), (dn A F p D)[j]? = (D[j]?).map (ce A F (p + j))
  | [], p, j => by simp [dn]
  | c :: r, p, 0 => by simp [dn]
  | c :: r, p, j + 1 => by
    show (dn A F (p + 1) r)[j]? = _
    rw [dn_get A F r (p + 1) j]
    show _ = (r[j]?).map (ce A F (p + (j + 1)))
    rw [show p + 1 + j = p + (j + 1) by omega]
theorem dn_len (A : XA) (F : Nat → Int32) : ∀ (D : List DC) (p : Nat), (dn A F p D).length = D.length
  | [], _ => rfl
  | _ :: r, p => by
    show (dn A F (p + 1) r).length + 1 = r.length + 1
    rw [dn_len A F r (p + 1)]
/-- fields: small number, large number -/
def flk : List (Nat × Nat) → Nat → Option Nat
  | [], _ => none
  | (a, b) :: r, k => bif Nat.beq a k then some b else flk r k
def rlk : List (Nat × Nat) → Nat → Option Nat
  | [], _ => none
  | (a, b) :: r, k => bif Nat.beq b k then some a else rlk r k
def plk : List Nat → Nat → Option Nat
  | [], _ => none
  | p :: ps, k => bif Nat.beq p k then some 0 else (plk ps k).map (· + 1)
def fdn (fm : List (Nat × Nat)) (F : Nat → Int32) : Nat → Int32 := fun k => F ((flk fm k).getD 0)
def adn (ps : List Nat) (A : XA) : XA := fun j => A (ps.getD j 0)
def fpu (fm : List (Nat × Nat)) (F' F : Nat → Int32) : Nat → Int32 := fun k => match rlk fm k with
  | some a => F' a
  | none => F k
def apu (ps : List Nat) (A' A : XA) : XA := fun p => match plk ps p with
  | some j => A' j
  | none => A p
def rnf (ps : List Nat) (fm : List (Nat × Nat)) : Nat × Nat → Nat × Nat → Bool
  | (0, k), (0, k') => Nat.beq (ps.getD k 0) k'
  | (1, k), (1, k') => (match flk fm k, rlk fm k' with
    | some b, some a => Nat.beq b k' && Nat.beq a k
    | _, _ => false)
  | (i + 2, k), (i' + 2, k') => Nat.beq i i' && Nat.beq k k'
  | _, _ => false
def rnfs (ps : List Nat) (fm : List (Nat × Nat)) : List (Nat × Nat) → List (Nat × Nat) → Bool
  | [], [] => true
  | a :: r, b :: s => rnf ps fm a b && rnfs ps fm r s
  | _, _ => false
def rws (ps : List Nat) (b b' : Nat) : Nat → Bool
  | 0 => true
  | n + 1 => Nat.beq (ps.getD (b + n) 0) (b' + n) && rws ps b b' n
def rnc (ps : List Nat) (fm : List (Nat × Nat)) : DC → DC → Bool
  | .inl (t, n), .inl (t', n') => Nat.beq t t' && Nat.beq n n'
  | .inr (.inl (n, b)), .inr (.inl (n', b')) => Nat.beq n n' && rws ps b b' n
  | .inr (.inr (ci, fs)), .inr (.inr (ci', fs')) => Nat.beq ci ci' && rnfs ps fm fs fs'
  | _, _ => false
def rno (fm : List (Nat × Nat)) : List (Nat × Nat) → Bool
  | [] => true
  | (1, k) :: r => (match rlk fm k with
    | some _ => false
    | none => true) && rno fm r
  | _ :: r => rno fm r
/-- each cell of the small world is the large one's at its place; the other cells have none of its fields -/
def cks (D : List DC) (ps : List Nat) (fm : List (Nat × Nat)) : List Nat → List DC → Bool
  | [], [] => true
  | p :: q, c :: r => (match D[p]? with
    | some c' => rnc ps fm c c'
    | none => false) && cks D ps fm q r
  | _, _ => false
def cko (ps : List Nat) (fm : List (Nat × Nat)) : Nat → List DC → Bool
  | _, [] => true
  | p, c :: r => (match plk ps p, c with
    | none, .inr (.inr (_, fs)) => rno fm fs
    | _, _ => true) && cko ps fm (p + 1) r
def cq (D Dc : List DC) (ps : List Nat) (fm : List (Nat × Nat)) : Bool := va_nd ps && (cks D ps fm ps Dc && cko ps fm 0 D)
theorem bnd {a b : Bool} (h : (a && b) = true) : a = true ∧ b = true := by
  cases a <;> cases b <;> first | exact ⟨rfl, rfl⟩ | cases h
theorem rnf_in {ps : List Nat} {fm : List (Nat × Nat)} {F' F : Nat → Int32} : ∀ {a b : Nat × Nat}, rnf ps fm a b = true → xrn ps (fv F' a) = fv (fpu fm F' F) b
  | (0, k), (0, k'), h => by
    have := Nat.eq_of_beq_eq_true h
    show Value.ref (ps.getD k 0) = Value.ref k'
    rw [this]
  | (1, k), (1, k'), h => by
    show Value.int (F' k) = Value.int (fpu fm F' F k')
    have h : (match flk fm k, rlk fm k' with
      | some b, some a => Nat.beq b k' && Nat.beq a k
      | _, _ => false) = true := h
    unfold fpu
    cases h1 : flk fm k with
    | none => rw [h1] at h; cases h
    | some b =>
      cases h2 : rlk fm k' with
      | none => rw [h1, h2] at h; cases h
      | some a =>
        rw [h1, h2] at h
        obtain ⟨_, g2⟩ := bnd h
        rw [Nat.eq_of_beq_eq_true g2]
  | (i + 2, k), (i' + 2, k'), h => by
    obtain ⟨_, g2⟩ := bnd h
    show Value.retAddr k = Value.retAddr k'
    rw [Nat.eq_of_beq_eq_true g2]
  | (0, _), (1, _), h => by cases h
  | (0, _), (_ + 2, _), h => by cases h
  | (1, _), (0, _), h => by cases h
  | (1, _), (_ + 2, _), h => by cases h
  | (_ + 2, _), (0, _), h => by cases h
  | (_ + 2, _), (1, _), h => by cases h
theorem rnf_dn {ps : List Nat} {fm : List (Nat × Nat)} {F : Nat → Int32} : ∀ {a b : Nat × Nat}, rnf ps fm a b = true → xrn ps (fv (fdn fm F) a) = fv F b
  | (0, k), (0, k'), h => by
    have := Nat.eq_of_beq_eq_true h
    show Value.ref (ps.getD k 0) = Value.ref k'
    rw [this]
  | (1, k), (1, k'), h => by
    show Value.int (F ((flk fm k).getD 0)) = Value.int (F k')
    have h : (match flk fm k, rlk fm k' with
      | some b, some a => Nat.beq b k' && Nat.beq a k
      | _, _ => false) = true := h
    cases h1 : flk fm k with
    | none => rw [h1] at h; cases h
    | some b =>
      cases h2 : rlk fm k' with
      | none => rw [h1, h2] at h; cases h
      | some a =>
        rw [h1, h2] at h
        obtain ⟨g1, _⟩ := bnd h
        show Value.int (F b) = _
        rw [Nat.eq_of_beq_eq_true g1]
  | (i + 2, k), (i' + 2, k'), h => by
    obtain ⟨_, g2⟩ := bnd h
    show Value.retAddr k = Value.retAddr k'
    rw [Nat.eq_of_beq_eq_true g2]
  | (0, _), (1, _), h => by cases h
  | (0, _), (_ + 2, _), h => by cases h
  | (1, _), (0, _), h => by cases h
  | (1, _), (_ + 2, _), h => by cases h
  | (_ + 2, _), (0, _), h => by cases h
  | (_ + 2, _), (1, _), h => by cases h
theorem rnfs_in {ps : List Nat} {fm : List (Nat × Nat)} {F' F : Nat → Int32} : ∀ {fs gs : List (Nat × Nat)}, rnfs ps fm fs gs = true → (fs.map (fv F')).map (xrn ps) = gs.map (fv (fpu fm F' F))
  | [], [], _ => rfl
  | a :: r, b :: s, h => by
    obtain ⟨h1, h2⟩ := bnd h
    show xrn ps (fv F' a) :: (r.map (fv F')).map (xrn ps) = fv (fpu fm F' F) b :: s.map (fv (fpu fm F' F))
    rw [rnf_in h1, rnfs_in h2]
  | [], _ :: _, h => by cases h
  | _ :: _, [], h => by cases h
theorem rnfs_dn {ps : List Nat} {fm : List (Nat × Nat)} {F : Nat → Int32} : ∀ {fs gs : List (Nat × Nat)}, rnfs ps fm fs gs = true → (fs.map (fv (fdn fm F))).map (xrn ps) = gs.map (fv F)
  | [], [], _ => rfl
  | a :: r, b :: s, h => by
    obtain ⟨h1, h2⟩ := bnd h
    show xrn ps (fv (fdn fm F) a) :: (r.map (fv (fdn fm F))).map (xrn ps) = fv F b :: s.map (fv F)
    rw [rnf_dn h1, rnfs_dn h2]
  | [], _ :: _, h => by cases h
  | _ :: _, [], h => by cases h
theorem rws_at {ps : List Nat} {b b' : Nat} : ∀ {n i : Nat}, rws ps b b' n = true → i < n → ps.getD (b + i) 0 = b' + i
  | 0, i, _, h => absurd h (Nat.not_lt_zero _)
  | n + 1, i, h, hi => by
    obtain ⟨h1, h2⟩ := bnd h
    by_cases q : i = n
    · subst q
      exact Nat.eq_of_beq_eq_true h1
    · exact rws_at h2 (by omega)
theorem KT_in {n b i : Nat} (h : i < n) : KT n b i = some (b + i) := by
  unfold KT
  rw [Nat.ble_eq_true_of_le (show i + 1 ≤ n from h)]
  rfl
theorem KT_out {n b i : Nat} (h : ¬ i < n) : KT n b i = none := by
  unfold KT
  cases hb : Nat.ble (i + 1) n with
  | true => exact absurd (Nat.le_of_ble_eq_true hb) h
  | false => rfl
theorem rws_KT {ps : List Nat} {b b' n : Nat} (h : rws ps b b' n = true) : (fun i => (KT n b i).map (fun k => ps.getD k 0)) = KT n b' := by
  funext i
  by_cases q : i < n
  · rw [KT_in q, KT_in q]
    exact congrArg some (rws_at h q)
  · rw [KT_out q, KT_out q]
    rfl
theorem rnc_in {ps : List Nat} {fm : List (Nat × Nat)} {A A' : XA} {F' F : Nat → Int32} {j p : Nat} (hA : A p = A' j) : ∀ {c c' : DC}, rnc ps fm c c' = true → xre ps (ce A' F' j c) = ce A (fpu fm F' F) p c'
  | .inl (t, n), .inl (t', n'), h => by
    obtain ⟨h1, h2⟩ := bnd h
    rw [Nat.eq_of_beq_eq_true h1, Nat.eq_of_beq_eq_true h2]
    show (Sum.inl (t', n', .inl (A' j)) : va_E) = Sum.inl (t', n', .inl (A p))
    rw [hA]
  | .inr (.inl (n, b)), .inr (.inl (n', b')), h => by
    obtain ⟨h1, h2⟩ := bnd h
    have := Nat.eq_of_beq_eq_true h1
    subst this
    show (Sum.inl (2, n, .inr (.inr (.inr (.inr (fun i => (KT n b i).map (fun k => ps.getD k 0)))))) : va_E) = Sum.inl (2, n, .inr (.inr (.inr (.inr (KT n b')))))
    rw [rws_KT h2]
  | .inr (.inr (ci, fs)), .inr (.inr (ci', fs')), h => by
    obtain ⟨h1, h2⟩ := bnd h
    show (Sum.inr (ci, (fs.map (fv F')).map (xrn ps)) : va_E) = Sum.inr (ci', fs'.map (fv (fpu fm F' F)))
    rw [rnfs_in h2, Nat.eq_of_beq_eq_true h1]
  | .inl _, .inr _, h => by cases h
  | .inr (.inl _), .inl _, h => by cases h
  | .inr (.inr _), .inl _, h => by cases h
  | .inr (.inl _), .inr (.inr _), h => by cases h
  | .inr (.inr _), .inr (.inl _), h => by cases h
theorem rnc_dn {ps : List Nat} {fm : List (Nat × Nat)} {A A' : XA} {F : Nat → Int32} {j p : Nat} (hA : A p = A' j) : ∀ {c c' : DC}, rnc ps fm c c' = true → xre ps (ce A' (fdn fm F) j c) = ce A F p c'
  | .inl (t, n), .inl (t', n'), h => by
    obtain ⟨h1, h2⟩ := bnd h
    rw [Nat.eq_of_beq_eq_true h1, Nat.eq_of_beq_eq_true h2]
    show (Sum.inl (t', n', .inl (A' j)) : va_E) = Sum.inl (t', n', .inl (A p))
    rw [hA]
  | .inr (.inl (n, b)), .inr (.inl (n', b')), h => by
    obtain ⟨h1, h2⟩ := bnd h
    have := Nat.eq_of_beq_eq_true h1
    subst this
    show (Sum.inl (2, n, .inr (.inr (.inr (.inr (fun i => (KT n b i).map (fun k => ps.getD k 0)))))) : va_E) = Sum.inl (2, n, .inr (.inr (.inr (.inr (KT n b')))))
    rw [rws_KT h2]
  | .inr (.inr (ci, fs)), .inr (.inr (ci', fs')), h => by
    obtain ⟨h1, h2⟩ := bnd h
    show (Sum.inr (ci, (fs.map (fv (fdn fm F))).map (xrn ps)) : va_E) = Sum.inr (ci', fs'.map (fv F))
    rw [rnfs_dn h2, Nat.eq_of_beq_eq_true h1]
  | .inl _, .inr _, h => by cases h
  | .inr (.inl _), .inl _, h => by cases h
  | .inr (.inr _), .inl _, h => by cases h
  | .inr (.inl _), .inr (.inr _), h => by cases h
  | .inr (.inr _), .inr (.inl _), h => by cases h
theorem cks_at {D : List DC} {ps : List Nat} {fm : List (Nat × Nat)} : ∀ {qs : List Nat} {Dc : List DC} {j p : Nat}, cks D ps fm qs Dc = true → qs[j]? = some p → ∃ c c', Dc[j]? = some c ∧ D[p]? = some c' ∧ rnc ps fm c c' = true
  | [], _, j, p, _, h => by simp at h
  | q :: qs, [], _, _, h, _ => by cases h
  | q :: qs, c :: r, 0, p, h, hq => by
    obtain ⟨h1, h2⟩ := bnd h
    cases hq
    cases hd : D[q]? with
    | none => rw [hd] at h1; cases h1
    | some c' => rw [hd] at h1; exact ⟨c, c', rfl, rfl, h1⟩
  | q :: qs, c :: r, j + 1, p, h, hq => by
    obtain ⟨c1, c2, e1, e2, e3⟩ := cks_at (j := j) (p := p) (bnd h).2 (by simpa using hq)
    exact ⟨c1, c2, by simpa using e1, e2, e3⟩
theorem cks_len {D : List DC} {ps : List Nat} {fm : List (Nat × Nat)} : ∀ {qs : List Nat} {Dc : List DC}, cks D ps fm qs Dc = true → qs.length = Dc.length
  | [], [], _ => rfl
  | [], _ :: _, h => by cases h
  | q :: qs, [], h => by cases h
  | q :: qs, c :: r, h => congrArg (· + 1) (cks_len (bnd h).2)
theorem plk_some : ∀ {ps : List Nat} {p j : Nat}, plk ps p = some j → ps[j]? = some p
  | [], _, _, h => by cases h
  | q :: qs, p, j, h => by
    unfold plk at h
    cases hb : Nat.beq q p with
    | true =>
      rw [hb] at h
      cases h
      rw [Nat.eq_of_beq_eq_true hb]
      rfl
    | false =>
      rw [hb] at h
      cases h2 : plk qs p with
      | none => rw [h2] at h; cases h
      | some j' =>
        rw [h2] at h
        cases h
        have := plk_some h2
        simpa using this
theorem plk_none : ∀ {ps : List Nat} {p : Nat}, plk ps p = none → p ∉ ps
  | [], _, _ => by simp
  | q :: qs, p, h => by
    unfold plk at h
    cases hb : Nat.beq q p with
    | true => rw [hb] at h; cases h
    | false =>
      rw [hb] at h
      cases h2 : plk qs p with
      | some j' => rw [h2] at h; cases h
      | none =>
        intro hm
        rcases List.mem_cons.mp hm with e | e
        · rw [e, Nat.beq_refl] at hb
          cases hb
        · exact plk_none h2 e
theorem cko_at {ps : List Nat} {fm : List (Nat × Nat)} : ∀ {D : List DC} {p j ci : Nat} {fs : List (Nat × Nat)}, cko ps fm p D = true → D[j]? = some (.inr (.inr (ci, fs))) → plk ps (p + j) = none → rno fm fs = true
  | [], _, _, _, _, _, h, _ => by simp at h
  | c :: r, p, 0, ci, fs, h, hd, hp => by
    obtain ⟨h1, h2⟩ := bnd h
    cases hd
    rw [show p = p + 0 from rfl, hp] at h1
    exact h1
  | c :: r, p, j + 1, ci, fs, h, hd, hp => by
    obtain ⟨h1, h2⟩ := bnd h
    exact cko_at h2 hd (by rw [show p + 1 + j = p + (j + 1) by omega]; exact hp)
theorem rno_in {fm : List (Nat × Nat)} {F' F : Nat → Int32} : ∀ {fs : List (Nat × Nat)}, rno fm fs = true → fs.map (fv (fpu fm F' F)) = fs.map (fv F)
  | [], _ => rfl
  | (1, k) :: r, h => by
    obtain ⟨h1, h2⟩ := bnd h
    show Value.int (fpu fm F' F k) :: r.map (fv (fpu fm F' F)) = Value.int (F k) :: r.map (fv F)
    rw [rno_in h2]
    unfold fpu
    cases hr : rlk fm k with
    | none => rfl
    | some a => rw [hr] at h1; cases h1
  | (0, k) :: r, h => by
    show Value.ref k :: r.map (fv (fpu fm F' F)) = Value.ref k :: r.map (fv F)
    rw [rno_in (fs := r) h]
  | (i + 2, k) :: r, h => by
    show Value.retAddr k :: r.map (fv (fpu fm F' F)) = Value.retAddr k :: r.map (fv F)
    rw [rno_in (fs := r) h]
theorem cq_dn {D Dc : List DC} {ps : List Nat} {fm : List (Nat × Nat)} (h : cq D Dc ps fm = true) (A : XA) (F : Nat → Int32) : ps.map (fun i => (dn A F 0 D)[i]?) = (dn (adn ps A) (fdn fm F) 0 Dc).map (fun e => some (xre ps e)) := by
  obtain ⟨_, h2⟩ := bnd h
  obtain ⟨h2, h3⟩ := bnd h2
  apply List.ext_getElem?
  intro j
  rw [List.getElem?_map, List.getElem?_map, dn_get]
  cases hj : ps[j]? with
  | none =>
    have hl : Dc.length ≤ j := by
      rw [← cks_len h2]
      exact List.getElem?_eq_none_iff.mp hj
    rw [List.getElem?_eq_none_iff.mpr hl]
    rfl
  | some p =>
    obtain ⟨c, c', e1, e2, e3⟩ := cks_at h2 hj
    rw [e1]
    show some ((dn A F 0 D)[p]?) = some (some (xre ps (ce (adn ps A) (fdn fm F) (0 + j) c)))
    rw [dn_get, e2, Nat.zero_add, Nat.zero_add]
    have e4 : A p = adn ps A j := by
      unfold adn
      rw [List.getD_eq_getElem?_getD, hj]
      rfl
    rw [rnc_dn e4 e3]
    rfl
theorem cq_up {D Dc : List DC} {ps : List Nat} {fm : List (Nat × Nat)} (h : cq D Dc ps fm = true) (A A' : XA) (F F' : Nat → Int32) : xputs (dn A F 0 D) ps ((dn A' F' 0 Dc).map (xre ps)) = dn (apu ps A' A) (fpu fm F' F) 0 D := by
  obtain ⟨hnd, h2⟩ := bnd h
  obtain ⟨h2, h3⟩ := bnd h2
  apply List.ext_getElem?
  intro p
  rw [dn_get, Nat.zero_add]
  by_cases hp : p < D.length
  · have hD : D[p]? = some D[p] := List.getElem?_eq_getElem hp
    cases hk : plk ps p with
    | some j =>
      have hj := plk_some hk
      obtain ⟨c, c', e1, e2, e3⟩ := cks_at h2 hj
      rw [e2]
      have e4 : apu ps A' A p = A' j := by
        unfold apu
        rw [hk]
      refine xputs_in ps _ _ j p _ hnd hj ?_ (by rw [dn_len]; exact hp)
      rw [List.getElem?_map, dn_get, e1, Nat.zero_add]
      exact congrArg some (rnc_in e4 e3)
    | none =>
      rw [xputs_out ps _ _ p (plk_none hk), dn_get, Nat.zero_add, hD]
      have e4 : apu ps A' A p = A p := by
        unfold apu
        rw [hk]
      show some (ce A F p D[p]) = some (ce (apu ps A' A) (fpu fm F' F) p D[p])
      generalize hc : D[p] = c at hD
      rcases c with ⟨t, n⟩ | ⟨n, b⟩ | ⟨ci, fs⟩
      · show some (Sum.inl (t, n, .inl (A p)) : va_E) = some (Sum.inl (t, n, .inl (apu ps A' A p)))
        rw [e4]
      · rfl
      · show some (Sum.inr (ci, fs.map (fv F)) : va_E) = some (Sum.inr (ci, fs.map (fv (fpu fm F' F))))
        rw [rno_in (cko_at h3 hD (by rw [Nat.zero_add]; exact hk))]
  · have hD : D[p]? = none := List.getElem?_eq_none_iff.mpr (by omega)
    rw [hD]
    apply List.getElem?_eq_none_iff.mpr
    rw [xputs_len, dn_len]
    omega
/-- a contract over a small world, in a large one -/
theorem cq_go {D Dc : List DC} {ps : List Nat} {fm : List (Nat × Nat)} (h : cq D Dc ps fm = true) {A A' : XA} {F F' : Nat → Int32} {r : Option Value} {post : Option Value → XW → Prop} (hp : post (r.map (xrn ps)) (dn (apu ps A' A) (fpu fm F' F) 0 D)) : (fun (r : Option Value) (wc' : XW) => match Nat.beq wc'.length ps.length with
  | true => post (r.map (xrn ps)) (xputs (dn A F 0 D) ps (wc'.map (xre ps)))
  | false => False) r (dn A' F' 0 Dc) := by
  have hl : Nat.beq (dn A' F' 0 Dc).length ps.length = true := by
    rw [dn_len, cks_len (bnd (bnd h).2).1]
    exact Nat.beq_refl _
  show (match Nat.beq (dn A' F' 0 Dc).length ps.length with
    | true => post (r.map (xrn ps)) (xputs (dn A F 0 D) ps ((dn A' F' 0 Dc).map (xre ps)))
    | false => False)
  rw [hl, cq_up h]
  exact hp
theorem xCT_le {d : Nat} {y : MethodName} {b : ByteArray} {nL : Nat} {rt : Option FieldType} {S T : XS} (h : xCT d y b nL rt S) (hle : ∀ as w post, T as w post → S as w post) : xCT d y b nL rt T := fun l D z L xs sz as w Qp hT => h l D z L xs sz as w Qp (hle as w Qp hT)
/-- a small contract with its world described -/
theorem xCT_in {d : Nat} {y : MethodName} {b : ByteArray} {nL : Nat} {rt : Option FieldType} {S T : XS} (h : xCT d y b nL rt S) (hle : ∀ as w post, T as w post → ∃ ps, xfr ps S as w post) : xCT d y b nL rt T := xCT_le (xCT_frE h) hle
theorem apu_id {ps : List Nat} {A : XA} : apu ps (adn ps A) A = A := by
  funext p
  unfold apu
  cases hk : plk ps p with
  | none => rfl
  | some j =>
    have hj := plk_some hk
    show A (ps.getD j 0) = A p
    rw [List.getD_eq_getElem?_getD, hj]
    rfl
