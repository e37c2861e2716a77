/-! ===== rows of rows: multianewarray of two dimensions, of ints (no row of the kit for it) ===== -/
def mtf (b i : Nat) : Nat → Value := fun j => if j < i then .ref (b + 1 + j) else .null
def mtop (cA : ClassId) (N b i : Nat) : Cell := arrV cA N (mtf b i)
def mrow (cI : ClassId) (K : Nat) : Cell := arrV cI K (fun _ => .int 0)
/-- the state behind i rows -/
def mst (T : State) (cA cI : ClassId) (N K : Nat) : Nat → State
  | 0 => T.pushCell (mtop cA N T.heap.size 0)
  | i + 1 => ((mst T cA cI N K i).pushCell (mrow cI K)).setCell T.heap.size (mtop cA N T.heap.size (i + 1))
theorem mtop_set (cA : ClassId) (N b i : Nat) : (mtop cA N b i).setSlot i (.ref (b + 1 + i)) = mtop cA N b (i + 1) := by
  unfold mtop
  rw [arrV_store]
  congr 1
  funext j
  unfold updV mtf
  by_cases h : j = i
  · rw [if_pos h, if_pos (by omega), h]
  · rw [if_neg h]
    by_cases g : j < i
    · rw [if_pos g, if_pos (by omega)]
    · rw [if_neg g, if_neg (by omega)]
theorem mst_top (T : State) (f : JFrame) (cA cI : ClassId) (N K : Nat) : ∀ i, mst (T.setTop f) cA cI N K i = (mst T cA cI N K i).setTop f
  | 0 => rfl
  | i + 1 => by
    show ((mst (T.setTop f) cA cI N K i).pushCell (mrow cI K)).setCell T.heap.size (mtop cA N T.heap.size (i + 1)) = _
    rw [mst_top T f cA cI N K i]
    rfl
theorem mst_is (T : State) (cA cI : ClassId) (N K : Nat) : ∀ i, (mst T cA cI N K i).heap.size = T.heap.size + 1 + i ∧ (mst T cA cI N K i).vm = T.vm ∧ (mst T cA cI N K i).slotsUsed = T.slotsUsed + N + i * K ∧ (mst T cA cI N K i).heap[T.heap.size]? = some (mtop cA N T.heap.size i) ∧ (∀ a, a < T.heap.size → (mst T cA cI N K i).heap[a]? = T.heap[a]?) ∧ ∀ j, j < i → (mst T cA cI N K i).heap[T.heap.size + 1 + j]? = some (mrow cI K)
  | 0 => ⟨by simp [mst], rfl, by simp [mst, mtop, arrV_size], by simp [mst], fun a h => State.heap_pushCell_of_lt _ _ h, fun j h => absurd h (Nat.not_lt_zero _)⟩
  | i + 1 => by
    obtain ⟨h1, h2, h3, h4, h5, h6⟩ := mst_is T cA cI N K i
    have hlt : T.heap.size < (mst T cA cI N K i).heap.size := by omega
    have hc : ((mst T cA cI N K i).pushCell (mrow cI K)).heap[T.heap.size]? = some (mtop cA N T.heap.size i) := by rw [State.heap_pushCell_of_lt (h := hlt)]; exact h4
    refine ⟨?_, h2, ?_, State.heap_setCell_self hc, fun a h => ?_, fun j hj => ?_⟩
    · simp [mst, State.setCell, h1]
      omega
    · have e : (mrow cI K).slots.size = K := arrV_size _ _ _
      simp [mst, h3, e, Nat.succ_mul]
      omega
    · show (((mst T cA cI N K i).pushCell (mrow cI K)).setCell T.heap.size _).heap[a]? = _
      have q1 : T.heap.size ≠ a := by omega
      have q2 : a < (mst T cA cI N K i).heap.size := by omega
      rw [State.heap_setCell_other q1, State.heap_pushCell_of_lt (h := q2)]
      exact h5 a h
    · show (((mst T cA cI N K i).pushCell (mrow cI K)).setCell T.heap.size _).heap[T.heap.size + 1 + j]? = _
      have q1 : T.heap.size ≠ T.heap.size + 1 + j := by omega
      rw [State.heap_setCell_other q1]
      by_cases g : j < i
      · have q2 : T.heap.size + 1 + j < (mst T cA cI N K i).heap.size := by omega
        rw [State.heap_pushCell_of_lt (h := q2)]
        exact h6 j g
      · have e : T.heap.size + 1 + j = (mst T cA cI N K i).heap.size := by omega
        rw [e]
        exact State.heap_pushCell_size _ _
section MULTI
variable {p : Program} {l : Launch} {e : Env} {R : Room} {s : State} {m : MethodId} {args : Array Value} {below : List Frame} {meth : Method} {c : Code} {T : State} {locs : List Loc} {cells slots : Nat}
theorem mst_stand (X : Stand p l e R s m args below meth c T locs cells slots) (cA cI : ClassId) (N K : Nat) : ∀ i, Stand p l e R s m args below meth c (mst T cA cI N K i) locs (cells + 1 + i) (slots + N + i * K)
  | 0 => by
    have h := X.pushed (mtop cA N T.heap.size 0)
    have e9 : (mtop cA N T.heap.size 0).slots.size = N := arrV_size _ _ _
    rw [e9] at h
    rw [Nat.zero_mul]
    exact h
  | i + 1 => by
    obtain ⟨h1, -, -, h4, -, -⟩ := mst_is T cA cI N K i
    have q2 : T.heap.size < (mst T cA cI N K i).heap.size := by omega
    have hc : ((mst T cA cI N K i).pushCell (mrow cI K)).heap[T.heap.size]? = some (mtop cA N T.heap.size i) := by rw [State.heap_pushCell_of_lt (h := q2)]; exact h4
    have h := ((mst_stand X cA cI N K i).pushed (mrow cI K)).stored hc i (.ref (T.heap.size + 1 + i))
    have e9 : (mrow cI K).slots.size = K := arrV_size _ _ _
    rw [e9, mtop_set] at h
    have h2 := h.dropFresh (fun x hx => by
      rw [List.mem_singleton.mp hx]
      exact X.heapGrown)
    rw [show slots + N + (i + 1) * K = slots + N + i * K + K by rw [Nat.succ_mul]; omega]
    exact h2
end MULTI
section MWP
variable {E : CtlPost} {e : Env} {d : Bool} {acts : List Action} {s : State}
theorem m_row {cI cc : ClassId} {kI : Class} {k : Int32} (hkI : s.vm.classes[cI]? = some kI) (hkind : kI.kind = .array cc .int) (hk : ¬ k < 0) (hl : ¬ k.toNatClampNeg > e.platform.arrayLengthLimit) (hh : ¬ k.toNatClampNeg * 4 > e.platform.maxHeapBytes) (h1 : s.heap.size < e.platform.maxCells) (h2 : s.slotsUsed + k.toNatClampNeg ≤ e.platform.maxSlots) {Q : Addr → Pre} (hq : ∀ acts', Q s.heap.size d acts' (s.pushCell (mrow cI k.toNatClampNeg))) : wp (multianewarray.make cI [k]) Q E e d acts s := by
  rw [multianewarray.make]
  simp only [wp_bind', W.ite, hk, if_false, wp_pure', W.theClass, hkI, hkind, Option.some.injEq, exists_eq_left']
  refine W.newArray_of hkI hkind hl hh h1 h2 rfl (fun a9 => ?_)
  have e9 : ({ cls := cI, slots := Array.replicate k.toNatClampNeg (.int 0) } : Cell) = mrow cI k.toNatClampNeg := arrV_new cI _ _
  have h9 := hq a9
  rw [← e9] at h9
  exact h9
theorem m_all {cA cI cc : ClassId} {kA kI : Class} {n k : Int32} (hkA : s.vm.classes[cA]? = some kA) (hkindA : kA.kind = .array cI (.array .int)) (hkI : s.vm.classes[cI]? = some kI) (hkind : kI.kind = .array cc .int) (hn : ¬ n < 0) (hk : ¬ k < 0) (hl : ¬ n.toNatClampNeg > e.platform.arrayLengthLimit) (hh : ¬ n.toNatClampNeg * 4 > e.platform.maxHeapBytes) (hl2 : ¬ k.toNatClampNeg > e.platform.arrayLengthLimit) (hh2 : ¬ k.toNatClampNeg * 4 > e.platform.maxHeapBytes)
    (h1 : s.heap.size + 1 + n.toNatClampNeg ≤ e.platform.maxCells) (h2 : s.slotsUsed + n.toNatClampNeg + n.toNatClampNeg * k.toNatClampNeg ≤ e.platform.maxSlots) {Q : Addr → Pre} (hq : ∀ d' acts', Q s.heap.size d' acts' (mst s cA cI n.toNatClampNeg k.toNatClampNeg n.toNatClampNeg)) : wp (multianewarray.make cA [n, k]) Q E e d acts s := by
  have hno : ([k].find? (· < 0)) = none := by simp [hk]
  rw [multianewarray.make]
  simp only [wp_bind', W.ite, hn, if_false, wp_pure', W.theClass, hkA, hkindA, Option.some.injEq, exists_eq_left']
  refine W.newArray_of hkA hkindA hl hh (by omega) (by have := Nat.zero_le (n.toNatClampNeg * k.toNatClampNeg); omega) rfl (fun a9 => ?_)
  have e9 : s.pushCell ({ cls := cA, slots := Array.replicate n.toNatClampNeg .null } : Cell) = mst s cA cI n.toNatClampNeg k.toNatClampNeg 0 := by
    show _ = s.pushCell (arrV cA n.toNatClampNeg (mtf s.heap.size 0))
    have : mtf s.heap.size 0 = fun _ => Value.null := funext fun j => if_neg (Nat.not_lt_zero j)
    rw [this, ← arrV_new]
  rw [e9]
  simp only [hno]
  rw [ite_self, wp_bind', Std.Legacy.Range.forIn_eq_forIn_range']
  have hsz : ([:n.toNatClampNeg] : Std.Legacy.Range).size = n.toNatClampNeg := by simp [Std.Legacy.Range.size]
  rw [hsz]
  show wp (forIn (List.range' 0 n.toNatClampNeg 1) PUnit.unit _) _ E e d a9 _
  generalize hNN : n.toNatClampNeg = N at *
  generalize hKK : k.toNatClampNeg = K at *
  refine wp_forIn_inv (fun rest S => rest.length ≤ N ∧ rest = List.range' (N - rest.length) rest.length ∧ S = mst s cA cI N K (N - rest.length)) _ _ ⟨by simp, by simp, by simp⟩ ?_ ?_
  · rintro x rest S d' a' Q' ⟨g1, g2, rfl⟩ next
    have g1 : rest.length + 1 ≤ N := g1
    have g2 : x :: rest = List.range' (N - (rest.length + 1)) (rest.length + 1) := g2
    rw [List.range'_succ] at g2
    obtain ⟨gx, gr⟩ := List.cons.inj g2
    have ei : N - (rest.length + 1) + 1 = N - rest.length := by omega
    show wp _ Q' E e d' a' (mst s cA cI N K (N - (rest.length + 1)))
    obtain ⟨f1, f2, f3, f4, -, -⟩ := mst_is s cA cI N K (N - (rest.length + 1))
    have hmul : (N - (rest.length + 1)) * K + K ≤ N * K := by
      rw [← Nat.succ_mul]
      exact Nat.mul_le_mul_right K (by omega)
    simp only [wp_bind']
    refine m_row (by rw [f2]; exact hkI) hkind hk (by rw [hKK]; exact hl2) (by rw [hKK]; exact hh2) (by omega) (by rw [hKK]; omega) (fun a2 => ?_)
    rw [hKK]
    simp only [wp_bind', W.writeLoc, wp_pure']
    have q2 : s.heap.size < (mst s cA cI N K (N - (rest.length + 1))).heap.size := by omega
    refine ⟨mtop cA N s.heap.size (N - (rest.length + 1)), by rw [State.heap_pushCell_of_lt (h := q2)]; exact f4, (fun h => by cases h), ?_, ?_, next _ _ _ ⟨by omega, ?_, ?_⟩⟩
    · show x < (arrV _ _ _).slots.size
      rw [arrV_size, gx]
      omega
    · have hcls : (mtop cA N s.heap.size (N - (rest.length + 1))).cls = cA := rfl
      have hvm : (mtop cA N s.heap.size (N - (rest.length + 1))).vm = .none := rfl
      rw [hcls, hvm]
      simp [State.fitsSlot, State.slotType?, f2, hkA, hkindA]
      rfl
    · rw [← ei]
      exact gr
    · rw [← ei, f1, gx]
      show _ = ((mst s cA cI N K (N - (rest.length + 1))).pushCell (mrow cI K)).setCell s.heap.size (mtop cA N s.heap.size (N - (rest.length + 1) + 1))
      rw [mtop_set]
  · rintro S d' a' ⟨-, -, rfl⟩
    simp only [wp_pure']
    exact hq _ _
end MWP
section MROW
variable {p : Program} {l : Launch} {e : Env} {R : Room} {s : State} {m : MethodId} {args : Array Value} {below : List Frame} {meth : Method} {c : Code} {cc : ByteArray} {H : Heap} {locs : List Loc} {cells slots : Nat} {Q : State → Prop} {pc : Nat} {la : Array Slot} {rest : List Value}
theorem W_multi (hexec : p.tables.exec = Jvm.exec) (hb : c.code = cc) {own : String} {index : Nat} (hown : s.vm.findClass own = some m.cls) (hcl : (Cond.classLink own index ("[" ++ (FieldType.array .int).toString)).before args s = true) (hAO : gAO s) (harr : (Cond.arrayClass .int).before args s = true) {n k : Int32} {N K : Nat} (hn : ¬ n < 0) (hk : ¬ k < 0) (hN : n.toNatClampNeg = N) (hK : k.toNatClampNeg = K) (hN1 : N ≤ 1000) (hK1 : K ≤ 1000) (hcells : cells + (1 + N) ≤ R.cells) (hslots : slots + (N + N * K) ≤ R.slots) (hdg : decode cc pc = .ok (.multianewarray index 2, 4))
    (kk : ∀ (H1 : Heap) (cA cI : ClassId), s.vm.findClass ("[" ++ (FieldType.array .int).toString) = some cA → s.vm.findClass (FieldType.array .int).toString = some cI → H1.size = H.size + 1 + N → H1[H.size]? = some (mtop cA N H.size N) → (∀ j, j < N → H1[H.size + 1 + j]? = some (mrow cI K)) → (∀ a, a < H.size → H1[a]? = H[a]?) →
      W p l e R s m args below meth c H1 locs (cells + 1 + N) (slots + N + N * K) Q (F0 m (pc + 4) la (.ref H.size :: rest))) : W p l e R s m args below meth c H locs cells slots Q (F0 m pc la (.int k :: .int n :: rest)) := by
  intro T hT X
  subst hT
  subst hb
  subst hN
  subst hK
  obtain ⟨⟨cI, cA, kA, a1, a2, a3, a4⟩, -⟩ := hAO
  obtain ⟨cI2, kI, cc2, b1, b2, b3⟩ := Cond.arrayClass_spec harr
  have eI : cI2 = cI := Option.some.inj (b1.symm.trans a1)
  subst eI
  obtain ⟨c0, d1, d2⟩ := Cond.classLink_spec hown hcl e.platform (by rw [X.admits.platform])
  have eA : cA = c0 := Option.some.inj (a4.symm.trans d1)
  subst eA
  obtain ⟨g1, g2, -⟩ := State.classEntry (e := e) X.warmed d2
  generalize T.vm.noted m.cls index (.cls cA) = vm1 at g1 g2
  obtain ⟨kA1, p1, p2⟩ := g2.alike.2.2 _ _ a2
  obtain ⟨kI1, q1, q2⟩ := g2.alike.2.2 _ _ b2
  have X1 := mst_stand (X.noted g2) cA cI2 n.toNatClampNeg k.toNatClampNeg n.toNatClampNeg
  obtain ⟨f1, f2, f3, f4, f5, f6⟩ := mst_is (T.setVm vm1) cA cI2 n.toNatClampNeg k.toNatClampNeg n.toNatClampNeg
  obtain ⟨r1, r2⟩ := X.roomAbove hcells hslots
  obtain ⟨t, s1, s2⟩ := kk _ cA cI2 a4 a1 f1 f4 f6 f5 _ rfl X1
  refine ⟨t, ?_, s2⟩
  have hlim : e.platform.arrayLengthLimit = 2147483645 := Launch.admits_arrayLengthLimit X.admits
  have hmax : e.platform.maxHeapBytes = 536870912 := Launch.admits_maxHeapBytes X.admits
  jvm_step X.here [hexec, hdg]
  simp only [multianewarray.sem, wp_bind', W.resolveClassAt_links (State.method?_setTop (F0 m pc la (.int k :: .int n :: rest)) X.here.top) g1]
  rw [W.popN, if_neg (by decide)]
  refine ⟨F0 m pc la (.int k :: .int n :: rest), State.topJava?_setTop' (s := T.setVm vm1) _ X.here.top, [.int n, .int k], rest, rfl, rfl, ?_⟩
  simp only [List.mapM_cons, List.mapM_nil, wp_bind', wp_pure']
  refine m_all (kA := kA1) (kI := kI1) (cI := cI2) (cc := cc2) p1 (by rw [p2]; exact a3) q1 (by rw [q2]; exact b3) hn hk (by rw [hlim]; omega) (by rw [hmax]; omega) (by rw [hlim]; omega) (by rw [hmax]; omega) (by show T.heap.size + 1 + _ ≤ _; omega) (by show T.slotsUsed + _ + _ ≤ _; omega) (fun d' acts' => ?_)
  have eS : ((T.setTop (F0 m pc la (.int k :: .int n :: rest))).setVm vm1).setTop { (F0 m pc la (.int k :: .int n :: rest)) with stack := rest } = (T.setVm vm1).setTop (F0 m pc la rest) := by
    show ((T.setVm vm1).setTop _).setTop _ = _
    rw [State.setTop_setTop]
  rw [eS, mst_top]
  simp only [wp_bind', W.mark, W.pushRef, State.topJava?_setTop' _ X1.here.top, Option.some.injEq, exists_eq_left', State.setTop_setTop, State.heap_setTop]
  intro a5
  simp [jvm, X1.here.top]
  exact s1
end MROW
section GMULTI
variable {p : Program} {l : Launch} {e : Env} {R : Room} {s : State} {m : MethodId} {args : Array Value} {below : List Frame} {meth : Method} {c : Code} {cc : ByteArray} {nL : Nat} {own : String} {D : va_G} {t2 : XY} {L : Nat} {xs : Nat → Int32} {A : Nat → Prop} {cs sl : Nat} {Q : State → Prop} {h0 : Option Nat} {pc : Nat} {ls : XL} {st : List Value} {w : XW}
def MW (N K : Nat) : XW := .inl (2, N, .inr (.inr (.inr (.inr (KT N 1))))) :: List.replicate N (.inl (0, K, .inl (fun _ => 0)))
theorem KT_some {n b i a : Nat} (h : KT n b i = some a) : i < n ∧ a = b + i := by
  unfold KT at h
  cases hb : Nat.ble (i + 1) n with
  | false =>
    rw [hb] at h
    cases h
  | true =>
    rw [hb] at h
    cases h
    exact ⟨Nat.le_of_ble_eq_true hb, rfl⟩
theorem KT_t {n b i : Nat} (h : i < n) : KT n b i = some (b + i) := by
  unfold KT
  rw [Nat.ble_eq_true_of_le h]
  rfl
theorem MW_b (N K : Nat) : xwb (MW N K) := by
  intro e he
  have hl : (MW N K).length = N + 1 := by simp [MW]
  rw [hl]
  rcases List.mem_cons.mp he with rfl | h
  · intro i a ha
    obtain ⟨h1, h2⟩ := KT_some ha
    omega
  · rw [List.eq_of_mem_replicate h]
    trivial
theorem g_multi (X : gCtx p s m args c cc nL own D t2 L xs A) {n k : Int32} {i1 N K : Nat} (hn : ¬ n < 0) (hk : ¬ k < 0) (hN : n.toNatClampNeg = N) (hK1 : k.toNatClampNeg = K) (hN9 : N ≤ 1000) (hK9 : K ≤ 1000) (hcs : cs + (1 + N) ≤ R.cells) (hsl : sl + (N + N * K) ≤ R.slots) (w1 : Cond.classLink own i1 "[[I" ∈ lw_g) (w2 : Cond.arrayClass .int ∈ lw_g) (hd : decode cc pc = .ok (.multianewarray i1 2, 4)) {W1 w9 : XW} {k0 cs2 sl2 : Nat} (hk0 : w.length = k0) (hcs2 : cs + 1 + N = cs2) (hsl2 : sl + N + N * K = sl2) (hW1 : (MW N K).map (xse k0) = W1) (hw1 : w ++ W1 = w9)
    (kk : gOK p l e R s m args below meth c nL D t2 A Q h0 cs2 sl2 (pc + 4) ls (.ref k0 :: st) w9) : gOK p l e R s m args below meth c nL D t2 A Q h0 cs sl pc ls (.int k :: .int n :: st) w := by
  subst hk0
  subst hcs2
  subst hsl2
  subst hW1
  subst hw1
  intro hB z1 hz H locs la hP hD hS hv
  obtain ⟨hx, hb, hml, hown, hts, hK, hA, hCn, hAO⟩ := X
  have hB' : gB h0 ls st w := ⟨hB.1, fun v h => hB.2.1 v (List.mem_cons_of_mem _ (List.mem_cons_of_mem _ h)), hB.2.2⟩
  refine W_multi hx hb hown (hts _ w1) hAO (hts _ w2) hn hk hN hK1 hN9 hK9 hcs hsl hd (fun H1 cA cI e1 e2 e3 e4 e5 e6 => ?_)
  have hcA : cA = t2.2 2 := Option.some.inj (e1.symm.trans (hK.2 2 _ rfl).2)
  have hcI : cI = t2.2 0 := Option.some.inj (e2.symm.trans (hK.2 0 _ rfl).2)
  have hlen : (MW N K).length = N + 1 := by simp [MW]
  have hadr : ∀ (k : Nat) (x : Nat × va_E), (xq (fun j => H.size + j, t2) (MW N K))[k]? = some x → x.1 = H.size + k ∧ k < N + 1 := fun k x hx9 => by
    have hkl := (List.getElem?_eq_some_iff.mp hx9).1
    rw [xq_len, hlen] at hkl
    rw [xq_get] at hx9
    cases hW : (MW N K)[k]? with
    | none =>
      rw [hW] at hx9
      cases hx9
    | some e9 =>
      rw [hW] at hx9
      cases hx9
      exact ⟨rfl, hkl⟩
  have hPm : va_P D vwCl (xq (fun j => H.size + j, t2) (MW N K)) H1 := fun k x hx9 => by
    obtain ⟨-, hkl⟩ := hadr k x hx9
    rw [xq_get] at hx9
    match k, hx9 with
    | 0, hx9 =>
      cases hx9
      show H1[H.size + 0]? = some (vp_cell (t2.2 2) (N, .inr (.inr (.inr (.inr (fun i => (KT N 1 i).map (fun j => H.size + j)))))))
      rw [vp_cell_q, ← hcA]
      have e9 : arrV cA N (fun j => va_rf ((KT N 1 j).map (fun j => H.size + j))) = mtop cA N H.size N := by
        unfold mtop arrV
        congr 1
        congr 1
        funext j
        show va_rf ((KT N 1 j.val).map (fun j => H.size + j)) = if j.val < N then Value.ref (H.size + 1 + j.val) else Value.null
        rw [KT_t j.isLt, if_pos j.isLt]
        show Value.ref (H.size + (1 + j.val)) = Value.ref (H.size + 1 + j.val)
        rw [Nat.add_assoc]
      rw [e9]
      exact e4
    | k + 1, hx9 =>
      have h9 : (MW N K)[k + 1]? = some (.inl (0, K, .inl (fun _ => 0))) := by
        show (List.replicate N _)[k]? = _
        rw [List.getElem?_replicate, if_pos (by omega)]
      rw [h9] at hx9
      cases hx9
      show H1[H.size + (k + 1)]? = some (vp_cell (t2.2 0) (K, .inl (fun _ => 0)))
      rw [← hcI, show H.size + (k + 1) = H.size + 1 + k by omega]
      exact e5 k (by omega)
  have hold : ∀ (k : Nat) (x : Nat × va_E), (xq (z1, t2) w)[k]? = some x → x.1 < H.size := fun k x hx9 => (hP k x hx9).lt
  have h9 := g_grow (W9 := MW N K) (z2 := fun j => H.size + j) kk hB' hz (MW_b N K) (by rw [hlen]; omega) ((hP.kept (fun k x hx9 => e6 x.1 (hold k x hx9))).app hPm) (hD.app ⟨fun i j x y hi hj hxy => by
      have h1 := hadr i x hi
      have h2 := hadr j y hj
      omega, fun k x hx9 => hA _ (by have := hadr k x hx9; have := hS.1; omega)⟩ (fun i j x y hi hj hxy => by
      have h1 := hold i x hi
      have h2 := hadr j y hj
      omega)) ⟨by rw [e3]; have := hS.1; omega, fun a h1 h2 => (e6 a (Nat.lt_of_lt_of_le h1 hS.1)).trans (hS.2.1 a h1 h2), hS.2.2⟩ hv
  exact h9
end GMULTI
theorem MW_sh (o N K : Nat) : (MW N K).map (xse o) = .inl (2, N, .inr (.inr (.inr (.inr (KT N (o + 1)))))) :: List.replicate N (.inl (0, K, .inl (fun _ => 0))) := by
  unfold MW
  rw [List.map_cons, List.map_replicate, ← KT_sh]
  rfl
