/-! ===== the class: what the calls share, the sheets ===== -/
/-- rows at b, b + 1 .. -/
def KT (n b : Nat) : Nat → Option Nat := fun i => bif Nat.ble (i + 1) n then some (b + i) else none
def xfrE (S : XS) : XS := fun as w post => ∃ ps, xfr ps S as w post
theorem xCT_frE {d : Nat} {y : MethodName} {b : ByteArray} {nL : Nat} {rt : Option FieldType} {S : XS} (h : xCT d y b nL rt S) : xCT d y b nL rt (xfrE S) := fun l D z L xs sz as w Qp ⟨ps, hq⟩ => xCT_fr h ps l D z L xs sz as w Qp hq
def sX9_within : XS := fun as w post => ∃ a b c : Int32, as = [.int a, .int b, .int c] ∧ (b ≤ a → a ≤ c → post (some (.int 1)) w) ∧ (¬ (b ≤ a ∧ a ≤ c) → post (some (.int 0)) w)
set_option maxRecDepth 10000 in
set_option maxHeartbeats 1000000 in
theorem mX9_within (d : Nat) (hd : 0 ≤ d) : xCT d yX9_within cX9_within 3 (some .boolean) sX9_within := by
  refine xmet0 (tb := tX9_within) (fl := fX9) (kc := nX9) (gs := g0) (cl := xlk []) 400 (by decide) tX9_within_ok fX9_ok nX9_ok g0_ok xg_nil ?_
  rintro L xs as w Qp ⟨a, b, c, rfl, h1, h2⟩
  refine ⟨Nat.le_of_ble_eq_true rfl, ?_⟩
  refine And.intro (fun h => ?_) (fun h => ?_)
  · have h : a < b := h
    exact ⟨rfl, h2 (fun q => (fa_of_lt h).2.1 q.1)⟩
  · have h : ¬ a < b := h
    refine And.intro (fun h3 => ?_) (fun h3 => ?_)
    · have h3 : c < a := h3
      exact ⟨rfl, h2 (fun q => (fa_of_lt h3).2.1 q.2)⟩
    · have h3 : ¬ c < a := h3
      exact ⟨rfl, h1 (fa_of_nlt h) (fa_of_nlt h3)⟩
def sX9_isRule : XS := fun as w post => ∃ a b : Int32, as = [.int a, .int b] ∧ ((0 ≤ a ∧ a ≤ 6) ∧ (0 ≤ b ∧ b ≤ 99) → post (some (.int 1)) w) ∧ (¬ ((0 ≤ a ∧ a ≤ 6) ∧ (0 ≤ b ∧ b ≤ 99)) → post (some (.int 0)) w)
set_option maxRecDepth 10000 in
set_option maxHeartbeats 1000000 in
theorem mX9_isRule (d : Nat) (hd : 1 ≤ d) : xCT d yX9_isRule cX9_isRule 2 (some .boolean) sX9_isRule := by
  obtain ⟨d, rfl⟩ : ∃ e, d = e + 1 := ⟨d - 1, by omega⟩
  refine xmet0 (tb := tX9_isRule) (fl := fX9) (kc := nX9) (gs := g0) (cl := xlk [(82, false, 3, sX9_within)]) 400 (by decide) tX9_isRule_ok fX9_ok nX9_ok g0_ok (xg_cons (k_X9_82 (mX9_within d (by omega))) xg_nil) ?_
  rintro L xs as w Qp ⟨a, b, rfl, h1, h2⟩
  refine ⟨Nat.le_of_ble_eq_true rfl, ?_⟩
  refine ⟨a, 0, 6, rfl, fun g1 g2 => ?_, fun g => ?_⟩
  · refine br_f xc_eq1 ?_
    refine ⟨b, 0, 99, rfl, fun g3 g4 => ?_, fun g => ?_⟩
    · refine br_f xc_eq1 ?_
      exact ⟨rfl, h1 ⟨⟨g1, g2⟩, ⟨g3, g4⟩⟩⟩
    · refine br_t xc_eq0 ?_
      exact ⟨rfl, h2 (fun q => g q.2)⟩
  · refine br_t xc_eq0 ?_
    exact ⟨rfl, h2 (fun q => g q.1)⟩
def sX9_isSheet : XS := fun as w post => ∃ (s : Int32), as = [.int s] ∧ (∀ i, i < 4 → s = nI i → post (some (.int 1)) w) ∧ ((∀ i, i < 4 → s ≠ nI i) → post (some (.int 0)) w)
set_option maxRecDepth 10000 in
set_option maxHeartbeats 1000000 in
theorem mX9_isSheet (d : Nat) (hd : 1 ≤ d) : xCT d yX9_isSheet cX9_isSheet 1 (some .boolean) sX9_isSheet := by
  obtain ⟨d, rfl⟩ : ∃ e, d = e + 1 := ⟨d - 1, by omega⟩
  refine xmet0 (tb := tX9_isSheet) (fl := fX9) (kc := nX9) (gs := g0) (cl := xlk [(82, false, 3, sX9_within)]) 400 (by decide) tX9_isSheet_ok fX9_ok nX9_ok g0_ok (xg_cons (k_X9_82 (mX9_within d (by omega))) xg_nil) ?_
  rintro L xs as w Qp ⟨s, rfl, h1, h2⟩
  refine ⟨Nat.le_of_ble_eq_true rfl, ?_⟩
  refine ⟨s, 0, 3, rfl, fun g1 g2 => ?_, fun g => ?_⟩
  · obtain ⟨i, hi, e⟩ := rg (c := 3) (by omega) g1 g2
    exact ⟨rfl, h1 i (by omega) e⟩
  · refine ⟨rfl, h2 (fun i hi e => g ?_)⟩
    rw [e]
    exact ⟨nI_pos' (by omega), nI_le (b := 3) (by omega) (by omega)⟩
def sJ7_fill_53178 : XS := fun as w post => ∃ (n : Nat) (f : Nat → Int32) (v : Int32), as = [.ref 0, .int v] ∧ w = [.inl (0, n, .inl f)] ∧ n < 2 ^ 31 ∧ post none [.inl (0, n, .inl (cpU (fun _ => v) f n))]
set_option maxRecDepth 10000 in
set_option maxHeartbeats 1000000 in
theorem mJ7_fill_53178 (d : Nat) (hd : 0 ≤ d) : xCT d yJ7_fill_53178 cJ7_fill_53178 4 none sJ7_fill_53178 := by
  refine xmet (tb := tJ7_fill_53178) (fl := fn0) (kc := kn0) (gs := g0) (cl := xlk []) (by decide) tJ7_fill_53178_ok fn0_ok kn0_ok g0_ok xg_nil ?_
  rintro L xs as w Qp ⟨n, f, v, rfl, rfl, hn, h⟩
  refine ⟨Nat.le_of_ble_eq_true rfl, 400, xlk [(5, 4)], fun m pc ls st w => pc = 5 ∧ st = [] ∧ ∃ i, i ≤ n ∧ m = n - i ∧ ls = [(0, .ref 0), (1, .int v), (2, .int (nI i)), (3, .int (nI n))] ∧ w = [.inl (0, n, .inl (cpU (fun _ => v) f i))], ?_, ?_⟩
  · exact ⟨n, rfl, rfl, 0, Nat.zero_le _, rfl, rfl, by rw [cpU_0]⟩
  · rintro m pc m9 ls st w hc ⟨rfl, rfl, i, hi, rfl, rfl, rfl⟩
    refine And.intro (fun g => ?_) (fun g => ?_)
    · have := ge_n rfl (by omega) (by omega) g
      rw [show i = n by omega]
      exact h
    · have hlt := nge_n rfl (by omega) (by omega) g
      refine And.intro (vp_in_nI (by omega) (by omega)) ?_
      refine ⟨n - (i + 1), by omega, rfl, rfl, i + 1, hlt, rfl, by rw [← nI_1]; rfl, ?_⟩
      show ([.inl (0, n, .inl (upd (cpU (fun _ => v) f i) (nI i).toNatClampNeg v))] : XW) = _
      rw [cl (by omega)]
      exact congrArg (fun g => ([.inl (0, n, .inl g)] : XW)) (cpU_s (fun _ => v) f i)
/-- the sheets: what they are wide, their sizes, their rows -/
def SH (B Z : Nat → Int32) (g : Nat → Nat → Int32) : XW := [.inr (6, [.ref 1, .ref 2, .ref 3]), .inl (0, 4, .inl B), .inl (0, 4, .inl Z), .inl (2, 4, .inr (.inr (.inr (.inr (KT 4 4))))), .inl (0, 40, .inl (g 0)), .inl (0, 40, .inl (g 1)), .inl (0, 40, .inl (g 2)), .inl (0, 40, .inl (g 3))]
def sX6_isMissing : XS := fun as w post => ∃ (B Z : Nat → Int32) (g : Nat → Nat → Int32) (h : Nat), as = [.ref 0, .int (nI h)] ∧ w = SH B Z g ∧ h < 4 ∧ (B h = 0 → post (some (.int 1)) w) ∧ (¬ B h = 0 → post (some (.int 0)) w)
set_option maxRecDepth 10000 in
set_option maxHeartbeats 1000000 in
theorem mX6_isMissing (d : Nat) (hd : 0 ≤ d) : xCT d yX6_isMissing cX6_isMissing 2 (some .boolean) sX6_isMissing := by
  refine xmet0 (tb := tX6_isMissing) (fl := fX6) (kc := nX6) (gs := g0) (cl := xlk []) 400 (by decide) tX6_isMissing_ok fX6_ok nX6_ok g0_ok xg_nil ?_
  rintro L xs as w Qp ⟨B, Z, g, h, rfl, rfl, hh, h1, h2⟩
  refine ⟨Nat.le_of_ble_eq_true rfl, ?_⟩
  refine And.intro (vp_in_nI (by omega) (by decide)) ?_
  refine And.intro (fun g => ?_) (fun g => ?_)
  · have g : ¬ B (nI h).toNatClampNeg = 0 := g
    rw [cl (by omega)] at g
    exact ⟨rfl, h2 g⟩
  · have g : B (nI h).toNatClampNeg = 0 := Classical.byContradiction g
    rw [cl (by omega)] at g
    exact ⟨rfl, h1 g⟩
def sX6_size : XS := fun as w post => ∃ (B Z : Nat → Int32) (g : Nat → Nat → Int32) (h : Nat), as = [.ref 0, .int (nI h)] ∧ w = SH B Z g ∧ h < 4 ∧ post (some (.int (Z h))) w
set_option maxRecDepth 10000 in
set_option maxHeartbeats 1000000 in
theorem mX6_size (d : Nat) (hd : 0 ≤ d) : xCT d yX6_size cX6_size 2 (some .int) sX6_size := by
  refine xmet0 (tb := tX6_size) (fl := fX6) (kc := nX6) (gs := g0) (cl := xlk []) 400 (by decide) tX6_size_ok fX6_ok nX6_ok g0_ok xg_nil ?_
  rintro L xs as w Qp ⟨B, Z, g, h, rfl, rfl, hh, h1⟩
  refine ⟨Nat.le_of_ble_eq_true rfl, ?_⟩
  refine And.intro (vp_in_nI (by omega) (by decide)) ?_
  have e : Z (nI h).toNatClampNeg = Z h := by rw [cl (by omega)]
  rw [← e] at h1
  exact h1
theorem h4 {h : Nat} (hh : h < 4) : h = 0 ∨ h = 1 ∨ h = 2 ∨ h = 3 := by omega
def sX6_number : XS := fun as w post => ∃ (B Z : Nat → Int32) (g : Nat → Nat → Int32) (h i : Nat), as = [.ref 0, .int (nI h), .int (nI i)] ∧ w = SH B Z g ∧ h < 4 ∧ i < 40 ∧ post (some (.int (g h i))) w
set_option maxRecDepth 10000 in
set_option maxHeartbeats 1000000 in
theorem mX6_number (d : Nat) (hd : 0 ≤ d) : xCT d yX6_number cX6_number 3 (some .int) sX6_number := by
  refine xmet0 (tb := tX6_number) (fl := fX6) (kc := nX6) (gs := g0) (cl := xlk []) 400 (by decide) tX6_number_ok fX6_ok nX6_ok g0_ok xg_nil ?_
  rintro L xs as w Qp ⟨B, Z, g, h, i, rfl, rfl, hh, hi, h1⟩
  refine ⟨Nat.le_of_ble_eq_true rfl, ?_⟩
  have e : g h (nI i).toNatClampNeg = g h i := by rw [cl (by omega)]
  rw [← e] at h1
  refine And.intro (vp_in_nI (by omega) (by decide)) ?_
  rcases h4 hh with rfl | rfl | rfl | rfl
  · refine ⟨4 + 0, rfl, ?_⟩
    exact And.intro (vp_in_nI (by omega) (by decide)) h1
  · refine ⟨4 + 1, rfl, ?_⟩
    exact And.intro (vp_in_nI (by omega) (by decide)) h1
  · refine ⟨4 + 2, rfl, ?_⟩
    exact And.intro (vp_in_nI (by omega) (by decide)) h1
  · refine ⟨4 + 3, rfl, ?_⟩
    exact And.intro (vp_in_nI (by omega) (by decide)) h1
def sX6_areAlike : XS := fun as w post => ∃ (B Z : Nat → Int32) (g : Nat → Nat → Int32) (h o : Nat), as = [.ref 0, .int (nI h), .int (nI o)] ∧ w = SH B Z g ∧ h < 4 ∧ o < 4 ∧ (B h = B o → post (some (.int 1)) w) ∧ (¬ B h = B o → post (some (.int 0)) w)
set_option maxRecDepth 10000 in
set_option maxHeartbeats 1000000 in
theorem mX6_areAlike (d : Nat) (hd : 0 ≤ d) : xCT d yX6_areAlike cX6_areAlike 3 (some .boolean) sX6_areAlike := by
  refine xmet0 (tb := tX6_areAlike) (fl := fX6) (kc := nX6) (gs := g0) (cl := xlk []) 400 (by decide) tX6_areAlike_ok fX6_ok nX6_ok g0_ok xg_nil ?_
  rintro L xs as w Qp ⟨B, Z, g, h, o, rfl, rfl, hh, ho, h1, h2⟩
  refine ⟨Nat.le_of_ble_eq_true rfl, ?_⟩
  refine And.intro (vp_in_nI (by omega) (by decide)) (And.intro (vp_in_nI (by omega) (by decide)) ?_)
  refine And.intro (fun g => ?_) (fun g => ?_)
  · have g : ¬ B (nI h).toNatClampNeg = B (nI o).toNatClampNeg := g
    rw [cl (by omega), cl (by omega)] at g
    exact ⟨rfl, h2 g⟩
  · have g : B (nI h).toNatClampNeg = B (nI o).toNatClampNeg := Classical.byContradiction g
    rw [cl (by omega), cl (by omega)] at g
    exact ⟨rfl, h1 g⟩
def sX6_stand : XS := fun as w post => ∃ (B Z : Nat → Int32) (g : Nat → Nat → Int32) (h : Nat) (i n : Int32), as = [.ref 0, .int (nI h), .int i, .int n] ∧ w = SH B Z g ∧ h < 4 ∧ (¬ i < 0 ∧ ¬ n < 0 ∧ i ≤ Z h ∧ n ≤ Z h - i → post (some (.int 1)) w) ∧ (¬ (¬ i < 0 ∧ ¬ n < 0 ∧ i ≤ Z h ∧ n ≤ Z h - i) → post (some (.int 0)) w)
set_option maxRecDepth 10000 in
set_option maxHeartbeats 1000000 in
theorem mX6_stand (d : Nat) (hd : 0 ≤ d) : xCT d yX6_stand cX6_stand 4 (some .boolean) sX6_stand := by
  refine xmet0 (tb := tX6_stand) (fl := fX6) (kc := nX6) (gs := g0) (cl := xlk []) 400 (by decide) tX6_stand_ok fX6_ok nX6_ok g0_ok xg_nil ?_
  rintro L xs as w Qp ⟨B, Z, g, h, i, n, rfl, rfl, hh, h1, h2⟩
  have e : Z (nI h).toNatClampNeg = Z h := by rw [cl (by omega)]
  refine ⟨Nat.le_of_ble_eq_true rfl, ?_⟩
  refine And.intro (fun g1 => ?_) (fun g1 => ?_)
  · have g1 : i < 0 := g1
    exact ⟨rfl, h2 (fun q => q.1 g1)⟩
  · have g1 : ¬ i < 0 := g1
    refine And.intro (fun g2 => ?_) (fun g2 => ?_)
    · have g2 : n < 0 := g2
      exact ⟨rfl, h2 (fun q => q.2.1 g2)⟩
    · have g2 : ¬ n < 0 := g2
      refine And.intro (vp_in_nI (by omega) (by decide)) ?_
      refine And.intro (fun g3 => ?_) (fun g3 => ?_)
      · have g3 : Z (nI h).toNatClampNeg < i := g3
        rw [e] at g3
        exact ⟨rfl, h2 (fun q => (fa_of_lt g3).2.1 q.2.2.1)⟩
      · have g3 : ¬ Z (nI h).toNatClampNeg < i := g3
        rw [e] at g3
        refine And.intro (vp_in_nI (by omega) (by decide)) ?_
        refine And.intro (fun g4 => ?_) (fun g4 => ?_)
        · have g4 : Z (nI h).toNatClampNeg - i < n := g4
          rw [e] at g4
          exact ⟨rfl, h2 (fun q => (fa_of_lt g4).2.1 q.2.2.2)⟩
        · have g4 : ¬ Z (nI h).toNatClampNeg - i < n := g4
          rw [e] at g4
          exact ⟨rfl, h1 ⟨g1, g2, fa_of_nlt g3, fa_of_nlt g4⟩⟩
def sX6_lay : XS := fun as w post => ∃ (B Z : Nat → Int32) (g : Nat → Nat → Int32) (h : Nat) (b n : Int32), as = [.ref 0, .int (nI h), .int b, .int n] ∧ w = SH B Z g ∧ h < 4 ∧ post none (SH (upd B h b) (upd Z h n) (fun t => if t = h then (fun i => if i < 40 then 0 else g h i) else g t))
set_option maxRecDepth 10000 in
set_option maxHeartbeats 1000000 in
theorem mX6_lay (d : Nat) (hd : 1 ≤ d) : xCT d yX6_lay cX6_lay 4 none sX6_lay := by
  obtain ⟨d, rfl⟩ : ∃ e, d = e + 1 := ⟨d - 1, by omega⟩
  refine xmet0 (tb := tX6_lay) (fl := fX6) (kc := nX6) (gs := g0) (cl := xlk [(23, false, 2, xfrE sJ7_fill_53178)]) 400 (by decide) tX6_lay_ok fX6_ok nX6_ok g0_ok (xg_cons (k_X6_23 (xCT_frE (mJ7_fill_53178 d (by omega)))) xg_nil) ?_
  rintro L xs as w Qp ⟨B, Z, g, h, b, n, rfl, rfl, hh, h1⟩
  refine ⟨Nat.le_of_ble_eq_true rfl, ?_⟩
  refine And.intro (vp_in_nI (by omega) (by decide)) (And.intro (vp_in_nI (by omega) (by decide)) (And.intro (vp_in_nI (by omega) (by decide)) ?_))
  rcases h4 hh with rfl | rfl | rfl | rfl
  · refine ⟨4 + 0, rfl, ?_⟩
    refine ⟨[4 + 0], [.ref 0, .int 0], [.inl (0, 40, .inl (g 0))], rfl, rfl, rfl, 40, g 0, 0, rfl, rfl, by decide, ?_⟩
    exact h1
  · refine ⟨4 + 1, rfl, ?_⟩
    refine ⟨[4 + 1], [.ref 0, .int 0], [.inl (0, 40, .inl (g 1))], rfl, rfl, rfl, 40, g 1, 0, rfl, rfl, by decide, ?_⟩
    exact h1
  · refine ⟨4 + 2, rfl, ?_⟩
    refine ⟨[4 + 2], [.ref 0, .int 0], [.inl (0, 40, .inl (g 2))], rfl, rfl, rfl, 40, g 2, 0, rfl, rfl, by decide, ?_⟩
    exact h1
  · refine ⟨4 + 3, rfl, ?_⟩
    refine ⟨[4 + 3], [.ref 0, .int 0], [.inl (0, 40, .inl (g 3))], rfl, rfl, rfl, 40, g 3, 0, rfl, rfl, by decide, ?_⟩
    exact h1
