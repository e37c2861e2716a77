/-! ===== what the calls answer and change, over the reference's data: d (place 1), kept (2), found (3), traced (14), bits (15), sizes (16), numbers (17); images (F 2), how many are traced (F 24) ===== -/
abbrev XA : Type := Nat → Nat → Int32
abbrev XR : Type := Int32 × (Nat → Nat → Int32) × (Nat → Int32)
def bd (x : Int32) (n : Nat) : Prop := ∃ j : Nat, j < n ∧ x = nI j
def SG (d : Nat → Int32) (n k i : Nat) : Prop := bd (d (8 + 8 * i)) 7 ∧ bd (d (8 + 8 * i + 1)) 100 ∧ bd (d (8 + 8 * i + 2)) n ∧ bd (d (8 + 8 * i + 3)) k ∧ bd (d (8 + 8 * i + 4)) k ∧ (d (8 + 8 * i + 5) = -1 ∨ bd (d (8 + 8 * i + 5)) n) ∧ bd (d (8 + 8 * i + 6)) 2
/-- the choir's data are sound: n notes, k singers -/
def DI (d : Nat → Int32) (n k : Nat) : Prop := d 1 = nI n ∧ 2 ≤ n ∧ n ≤ 12 ∧ d 2 = nI k ∧ k ≤ 8 ∧ (∀ i, i < k → SG d n k i) ∧ bd (d 0) 1000000 ∧ bd (d 4) 51 ∧ bd (d 5) 21 ∧ bd (d 72) 51 ∧ bd (d 73) 51 ∧ (∀ j, j < 50 → bd (d (196 + j)) 256) ∧ (∀ j, j < 100 → bd (d (96 + j)) 256)
def per (A : XA) (F : Nat → Int32) (A' : XA) (F' : Nat → Int32) : Prop := A' 1 = A 1 ∧ A' 2 = A 2 ∧ A' 3 = A 3 ∧ A' 14 = A 14 ∧ A' 15 = A 15 ∧ A' 16 = A 16 ∧ A' 17 = A 17 ∧ F' 2 = F 2 ∧ F' 24 = F 24
theorem per.r (A : XA) (F : Nat → Int32) : per A F A F := ⟨rfl, rfl, rfl, rfl, rfl, rfl, rfl, rfl, rfl⟩
/-- a public call of the reference ends as q says -/
def sQ (q : XR) (post : Option Value → XW → Prop) : Prop := ∀ A' F', per q.2.1 q.2.2 A' F' → post (some (.int q.1)) (LM A' F')
def eR (j : Nat) (A : XA) (F : Nat → Int32) : XR := (lo j, er A j, F)
theorem sQ_e {q : XR} {post : Option Value → XW → Prop} {A : XA} {F : Nat → Int32} {r : Int32} (h : sQ q post) (e : q = (r, A, F)) : post (some (.int r)) (LM A F) := by
  subst e
  exact h A F (per.r A F)
theorem cif_t' {α : Type} {P : Prop} {a b c : α} (h : P) (e : a = c) : cif P a b = c := (cif_t h).trans e
theorem cif_f' {α : Type} {P : Prop} {a b c : α} (h : ¬ P) (e : b = c) : cif P a b = c := (cif_f h).trans e
/-- there is a singer of that number -/
def isS (d : Nat → Int32) (s : Int32) : Prop := 0 ≤ s ∧ s ≤ d 2 - 1
theorem isS_i {d : Nat → Int32} {k : Nat} (h : d 2 = nI k) (hk : k ≤ 8) {i : Nat} (hi : i < k) : isS d (nI i) := by
  unfold isS
  rw [h]
  exact rgk' (by omega) hi
theorem isS_n {d : Nat → Int32} {k : Nat} {s : Int32} (h : d 2 = nI k) (hk : k ≤ 8) (hn : ∀ i, i < k → s ≠ nI i) : ¬ isS d s := by
  rintro ⟨h1, h2⟩
  rw [h] at h2
  obtain ⟨i, hi, e⟩ := rgk (by omega) h1 h2
  exact hn i hi e
def isH (s : Int32) : Prop := 0 ≤ s ∧ s ≤ 3
theorem isH_i {i : Nat} (hi : i < 4) : isH (nI i) := ⟨nI_pos' (by omega), nI_le (b := 3) (by omega) (by omega)⟩
theorem isH_n {s : Int32} (hn : ∀ i, i < 4 → s ≠ nI i) : ¬ isH s := by
  rintro ⟨h1, h2⟩
  obtain ⟨i, hi, e⟩ := rg (c := 3) (by omega) h1 h2
  exact hn i (by omega) e
noncomputable def qnotes (v : Int32) (A : XA) (F : Nat → Int32) : XR := cif (2 ≤ v ∧ v ≤ 12) (cif (∃ i, i < (A 1 2).toNatClampNeg ∧ (v ≤ A 1 (8 + 8 * i + 2) ∨ v ≤ A 1 (8 + 8 * i + 5))) (eR 3 A F) (A 1 1, aset A 1 (upd (A 1) 1 v), F)) (eR 1 A F)
/-- those below s who aren't told otherwise hear as in the ring of k -/
def hearU (d : Nat → Int32) (k s : Nat) : Nat → Int32 := fun j => if 8 ≤ j ∧ (j - 8) / 8 < s ∧ (j - 8) % 8 = 3 ∧ d (8 + 8 * ((j - 8) / 8) + 6) = 0 then nI (((j - 8) / 8 + k - 1) % k) else if 8 ≤ j ∧ (j - 8) / 8 < s ∧ (j - 8) % 8 = 4 ∧ d (8 + 8 * ((j - 8) / 8) + 6) = 0 then nI (((j - 8) / 8 + 2 * k - 2) % k) else d j
theorem hearU_0 (d : Nat → Int32) (k : Nat) : hearU d k 0 = d := by
  funext j
  unfold hearU
  rw [if_neg (by omega), if_neg (by omega)]
theorem hearU_at {d : Nat → Int32} {k s j : Nat} (h : ∀ i, i < s → j ≠ 8 + 8 * i + 3 ∧ j ≠ 8 + 8 * i + 4) : hearU d k s j = d j := by
  unfold hearU
  rw [if_neg, if_neg]
  · rintro ⟨h1, h2, h3, -⟩
    have := h _ h2
    omega
  · rintro ⟨h1, h2, h3, -⟩
    have := h _ h2
    omega
theorem hearU_told {d : Nat → Int32} {k s i : Nat} : hearU d k s (8 + 8 * i + 6) = d (8 + 8 * i + 6) := hearU_at (fun j _ => by omega)
theorem hearU_y {d : Nat → Int32} {k s : Nat} (h : d (8 + 8 * s + 6) = 0) : upd (upd (hearU d k s) (8 + 8 * s + 3) (nI ((s + k - 1) % k))) (8 + 8 * s + 4) (nI ((s + 2 * k - 2) % k)) = hearU d k (s + 1) := by
  funext j
  by_cases h4 : j = 8 + 8 * s + 4
  · subst h4
    rw [pk_us]
    unfold hearU
    have e1 : (8 + 8 * s + 4 - 8) / 8 = s := by omega
    have e2 : (8 + 8 * s + 4 - 8) % 8 = 4 := by omega
    rw [e1, e2, if_neg (by omega), if_pos ⟨by omega, by omega, rfl, h⟩]
  · rw [pk_un h4]
    by_cases h3 : j = 8 + 8 * s + 3
    · subst h3
      rw [pk_us]
      unfold hearU
      have e1 : (8 + 8 * s + 3 - 8) / 8 = s := by omega
      have e2 : (8 + 8 * s + 3 - 8) % 8 = 3 := by omega
      rw [e1, e2, if_pos ⟨by omega, by omega, rfl, h⟩]
    · rw [pk_un h3]
      unfold hearU
      have e1 : (8 ≤ j ∧ (j - 8) / 8 < s ∧ (j - 8) % 8 = 3 ∧ d (8 + 8 * ((j - 8) / 8) + 6) = 0) ↔ (8 ≤ j ∧ (j - 8) / 8 < s + 1 ∧ (j - 8) % 8 = 3 ∧ d (8 + 8 * ((j - 8) / 8) + 6) = 0) := by
        constructor
        · rintro ⟨a, b, c, e⟩; exact ⟨a, by omega, c, e⟩
        · rintro ⟨a, b, c, e⟩; exact ⟨a, by omega, c, e⟩
      have e2 : (8 ≤ j ∧ (j - 8) / 8 < s ∧ (j - 8) % 8 = 4 ∧ d (8 + 8 * ((j - 8) / 8) + 6) = 0) ↔ (8 ≤ j ∧ (j - 8) / 8 < s + 1 ∧ (j - 8) % 8 = 4 ∧ d (8 + 8 * ((j - 8) / 8) + 6) = 0) := by
        constructor
        · rintro ⟨a, b, c, e⟩; exact ⟨a, by omega, c, e⟩
        · rintro ⟨a, b, c, e⟩; exact ⟨a, by omega, c, e⟩
      simp only [e1, e2]
theorem hearU_n {d : Nat → Int32} {k s : Nat} (h : ¬ d (8 + 8 * s + 6) = 0) : hearU d k s = hearU d k (s + 1) := by
  funext j
  unfold hearU
  have key : ∀ c, (8 ≤ j ∧ (j - 8) / 8 < s ∧ (j - 8) % 8 = c ∧ d (8 + 8 * ((j - 8) / 8) + 6) = 0) ↔ (8 ≤ j ∧ (j - 8) / 8 < s + 1 ∧ (j - 8) % 8 = c ∧ d (8 + 8 * ((j - 8) / 8) + 6) = 0) := by
    intro c
    constructor
    · rintro ⟨a, b, c, e⟩; exact ⟨a, by omega, c, e⟩
    · rintro ⟨a, b, c, e⟩
      refine ⟨a, ?_, c, e⟩
      rcases Nat.lt_or_ge ((j - 8) / 8) s with q | q
      · exact q
      · have e9 : (j - 8) / 8 = s := by omega
        rw [e9] at e
        exact absurd e h
  simp only [key 3, key 4]
def joinD (d : Nat → Int32) (k : Nat) (kind m : Int32) : Nat → Int32 := upd (upd (upd (upd (upd (upd d (8 + 8 * k + 0) kind) (8 + 8 * k + 1) m) (8 + 8 * k + 2) 0) (8 + 8 * k + 5) (-1)) (8 + 8 * k + 6) 0) 2 (nI (k + 1))
noncomputable def qsinger (kind m : Int32) (A : XA) (F : Nat → Int32) : XR := cif ((0 ≤ kind ∧ kind ≤ 6) ∧ (0 ≤ m ∧ m ≤ 99)) (cif (A 1 2 = 8) (eR 4 A F) (A 1 2, aset A 1 (hearU (joinD (A 1) (A 1 2).toNatClampNeg kind m) ((A 1 2).toNatClampNeg + 1) ((A 1 2).toNatClampNeg + 1)), F)) (eR 1 A F)
noncomputable def qrule (s kind m : Int32) (A : XA) (F : Nat → Int32) : XR := cif (isS (A 1) s ∧ (0 ≤ kind ∧ kind ≤ 6) ∧ (0 ≤ m ∧ m ≤ 99)) (100 * A 1 (8 + 8 * s.toNatClampNeg + 0) + A 1 (8 + 8 * s.toNatClampNeg + 1), aset A 1 (upd (upd (A 1) (8 + 8 * s.toNatClampNeg + 0) kind) (8 + 8 * s.toNatClampNeg + 1) m), F) (eR 1 A F)
def isO (own kind : Int32) : Prop := kind = 0 ∨ kind = own ∨ (kind = 2 ∧ own = 4) ∨ (kind = 3 ∧ own = 5) ∨ (kind = 1 ∧ own = 6)
noncomputable def qas (s kind : Int32) (A : XA) (F : Nat → Int32) : XR := cif (isS (A 1) s ∧ (0 ≤ kind ∧ kind ≤ 6)) (cif (isO (A 1 (8 + 8 * s.toNatClampNeg + 0)) kind) (A 1 (8 + 8 * s.toNatClampNeg + 1), A, F) (eR 5 A F)) (eR 1 A F)
noncomputable def qnet (s f e : Int32) (A : XA) (F : Nat → Int32) : XR := cif (isS (A 1) s ∧ isS (A 1) f ∧ isS (A 1) e) (1, aset A 1 (upd (upd (upd (A 1) (8 + 8 * s.toNatClampNeg + 3) f) (8 + 8 * s.toNatClampNeg + 4) e) (8 + 8 * s.toNatClampNeg + 6) 1), F) (eR 1 A F)
noncomputable def qring (s : Int32) (A : XA) (F : Nat → Int32) : XR := cif (isS (A 1) s) (A 1 (8 + 8 * s.toNatClampNeg + 6), aset A 1 (hearU (upd (A 1) (8 + 8 * s.toNatClampNeg + 6) 0) (A 1 2).toNatClampNeg (A 1 2).toNatClampNeg), F) (eR 1 A F)
noncomputable def qsing (s what v : Int32) (A : XA) (F : Nat → Int32) : XR := cif (isS (A 1) s ∧ (0 ≤ what ∧ what ≤ 1) ∧ (-what ≤ v ∧ v ≤ A 1 1 - 1)) (cif (what = 0) (A 1 (8 + 8 * s.toNatClampNeg + 2), aset A 1 (upd (A 1) (8 + 8 * s.toNatClampNeg + 2) v), F) (A 1 (8 + 8 * s.toNatClampNeg + 5), aset A 1 (upd (A 1) (8 + 8 * s.toNatClampNeg + 5) v), F)) (eR 1 A F)
/-- how many of c numbers, from place p on, are notes one behind another -/
noncomputable def came (f : Nat → Int32) (n : Int32) (p : Nat) : Nat → Nat
  | 0 => 0
  | c + 1 => cif (came f n p c = c ∧ 0 ≤ f (p + c) ∧ f (p + c) ≤ n - 1) (c + 1) (came f n p c)
/-- the first c notes come from place p on -/
def begD (d f : Nat → Int32) (p c : Nat) : Nat → Int32 := fun j => if 8 ≤ j ∧ (j - 8) / 8 < c ∧ (j - 8) % 8 = 2 then f (p + (j - 8) / 8) else d j
noncomputable def qbegin (s : Int32) (A : XA) (F : Nat → Int32) : XR := cif (isH s) (cif (A 15 s.toNatClampNeg = 0) (eR 2 A F) (nI (came (A 17) (A 1 1) (40 * s.toNatClampNeg) (min (A 16 s.toNatClampNeg).toNatClampNeg (A 1 2).toNatClampNeg)), aset A 1 (begD (A 1) (A 17) (40 * s.toNatClampNeg) (came (A 17) (A 1 1) (40 * s.toNatClampNeg) (min (A 16 s.toNatClampNeg).toNatClampNeg (A 1 2).toNatClampNeg))), F)) (eR 1 A F)
def qseed (v : Int32) (A : XA) (F : Nat → Int32) : XR := (A 1 3, aset A 1 (upd (A 1) 3 v), F)
noncomputable def qtrace (i : Int32) (A : XA) (F : Nat → Int32) : XR := cif (0 ≤ i ∧ i ≤ F 24 - 1) (A 14 i.toNatClampNeg, A, F) (eR 2 A F)
def isB (b : Int32) : Prop := b = 0 ∨ b = 8 ∨ b = 16 ∨ b = 32
noncomputable def qsheet (s b n : Int32) (A : XA) (F : Nat → Int32) : XR := cif (isH s ∧ isB b) (cif (¬ b = 0 ∧ n < 0) (eR 3 A F) (cif (¬ b = 0 ∧ 40 < n) (eR 1 A F) (1, aset (aset (aset A 15 (upd (A 15) s.toNatClampNeg b)) 16 (upd (A 16) s.toNatClampNeg (cif (b = 0) 0 n))) 17 (fun j => if 40 * s.toNatClampNeg ≤ j ∧ j < 40 * s.toNatClampNeg + 40 then 0 else A 17 j), F))) (eR 1 A F)
noncomputable def low (b v : Int32) : Int32 := cif (b = 8) v.toInt8.toInt32 (cif (b = 16) v.toInt16.toInt32 v)
noncomputable def qput (s i v : Int32) (A : XA) (F : Nat → Int32) : XR := cif (isH s) (cif (A 15 s.toNatClampNeg = 0) (eR 2 A F) (cif (0 ≤ i ∧ i ≤ A 16 s.toNatClampNeg - 1) (1, aset A 17 (upd (A 17) (40 * s.toNatClampNeg + i.toNatClampNeg) (low (A 15 s.toNatClampNeg) v)), F) (eR 1 A F))) (eR 1 A F)
noncomputable def qmove (s i o j n : Int32) (A : XA) (F : Nat → Int32) : XR := cif (isH s ∧ isH o) (cif (A 15 s.toNatClampNeg = 0 ∨ A 15 o.toNatClampNeg = 0) (eR 2 A F) (cif (A 15 s.toNatClampNeg = A 15 o.toNatClampNeg) (cif (n < 0 ∨ i < 0 ∨ j < 0 ∨ A 16 s.toNatClampNeg - i < n ∨ A 16 o.toNatClampNeg - j < n) (eR 1 A F) (n, aset A 17 (va_cpy (A 17) (A 17) (40 * s.toNatClampNeg + i.toNatClampNeg) (40 * o.toNatClampNeg + j.toNatClampNeg) n.toNatClampNeg), F)) (eR 5 A F))) (eR 1 A F)
/-- the first 250 -/
def cp (f g : Nat → Int32) : Nat → Int32 := fun j => if j < 250 then f j else g j
def qimage (A : XA) (F : Nat → Int32) : XR := (F 2 + 1, aset A 2 (cp (A 1) (A 2)), fset F 2 (F 2 + 1))
noncomputable def qrestore (A : XA) (F : Nat → Int32) : XR := cif (F 2 = 0) (eR 2 A F) (A 2 0, aset A 1 (cp (A 2) (A 1)), F)
noncomputable def qtell (v : Int32) (A : XA) (F : Nat → Int32) : XR := cif (A 1 5 = 20) (eR 4 A F) (nI ((A 1 5).toNatClampNeg + 1), aset A 1 (upd (upd (A 1) (76 + (A 1 5).toNatClampNeg) v) 5 (nI ((A 1 5).toNatClampNeg + 1))), F)
/-- how many of the first k have a wish -/
noncomputable def wsh (d : Nat → Int32) : Nat → Nat
  | 0 => 0
  | i + 1 => wsh d i + cif (0 ≤ d (8 + 8 * i + 5)) 1 0
noncomputable def qcount (w : Int32) (A : XA) (F : Nat → Int32) : XR := cif (w = 0) (A 1 0, A, F) (cif (w = 1) (A 1 1, A, F) (cif (w = 2) (A 1 2, A, F) (cif (w = 3) (nI (wsh (A 1) (A 1 2).toNatClampNeg), A, F) (cif (w = 4) (A 1 4, A, F) (cif (w = 5) (A 1 5, A, F) (cif (w = 6) (F 24, A, F) (cif (w = 7) (A 1 3, A, F) (eR 1 A F))))))))
noncomputable def qtold (j : Int32) (A : XA) (F : Nat → Int32) : XR := cif (1 ≤ j ∧ j ≤ 5) (A 3 j.toNatClampNeg, A, F) (eR 1 A F)
/-- byte i of a word -/
def byt (x : Int64) (i : Nat) : Int32 := (x >>> ((8 * nI i).toInt64 &&& 63) &&& 255).toInt32
/-- n bytes of a word behind t of the tape -/
def fedD (d : Nat → Int32) (x : Int64) (t : Nat) (n : Nat) : Nat → Int32 := fun j => if j = 4 then nI (t + n) else if 196 + t ≤ j ∧ j < 196 + t + n then byt x (j - (196 + t)) else d j
noncomputable def qfeed (x : Int64) (n : Int32) (A : XA) (F : Nat → Int32) : XR := cif (1 ≤ n ∧ n ≤ 8) (cif (50 < A 1 4 + n) (eR 4 A F) (nI ((A 1 4).toNatClampNeg + n.toNatClampNeg), aset A 1 (fedD (A 1) x (A 1 4).toNatClampNeg n.toNatClampNeg), F)) (eR 1 A F)
