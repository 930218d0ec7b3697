/-! new int[n][m]: what the machine makes, row by row (a rule of our own) -/
def jm_o (cO : ClassId) (N z i : Nat) : Cell := arrV cO N fun j => va_rf (if j < i then some (z + 1 + j) else none)
def jm_i (cI : ClassId) (M : Nat) : Cell := arrV cI M fun _ => .int 0
/-- the row of references is there, and i rows of numbers in it -/
def jm_st (T : State) (cO cI : ClassId) (N M : Nat) : Nat → State
  | 0 => T.pushCell (jm_o cO N T.heap.size 0)
  | i + 1 => ((jm_st T cO cI N M i).pushCell (jm_i cI M)).setCell T.heap.size (jm_o cO N T.heap.size (i + 1))
theorem jm_next (cO : ClassId) (N z i : Nat) : (jm_o cO N z i).setSlot i (.ref (z + 1 + i)) = jm_o cO N z (i + 1) := by
  unfold jm_o
  rw [arrV_store]
  refine congrArg (arrV cO N) (funext fun j => ?_)
  unfold updV
  by_cases e : j = i
  · subst e
    rw [if_pos rfl, if_pos (Nat.lt_succ_self j)]
    rfl
  · rw [if_neg e]
    show va_rf (if j < i then some (z + 1 + j) else none) = _
    by_cases h : j < i
    · rw [if_pos h, if_pos (by omega)]
    · rw [if_neg h, if_neg (by omega)]
theorem jm_is (T : State) (cO cI : ClassId) (N M : Nat) : ∀ i, (jm_st T cO cI N M i).heap.size = T.heap.size + 1 + i ∧ (jm_st T cO cI N M i).vm = T.vm ∧ (jm_st T cO cI N M i).slotsUsed = T.slotsUsed + N + i * M ∧ (jm_st T cO cI N M i).heap[T.heap.size]? = some (jm_o cO N T.heap.size i) ∧ (∀ q : Nat, q < T.heap.size → (jm_st T cO cI N M i).heap[q]? = T.heap[q]?) ∧ ∀ j, j < i → (jm_st T cO cI N M i).heap[T.heap.size + 1 + j]? = some (jm_i cI M)
  | 0 => ⟨by simp [jm_st], rfl, by simp [jm_st, jm_o, arrV_size], State.heap_pushCell_size _ _, fun q hq => State.heap_pushCell_of_lt _ _ hq, fun j hj => absurd hj (Nat.not_lt_zero j)⟩
  | i + 1 => by
    obtain ⟨a, b, u, o, k, r⟩ := jm_is T cO cI N M i
    have lt : T.heap.size < (jm_st T cO cI N M i).heap.size := by omega
    have o2 : ((jm_st T cO cI N M i).pushCell (jm_i cI M)).heap[T.heap.size]? = some (jm_o cO N T.heap.size i) := by rw [State.heap_pushCell_of_lt _ _ lt]; exact o
    refine ⟨?_, b, ?_, State.heap_setCell_self o2, fun q hq => ?_, fun j hj => ?_⟩
    · simp [jm_st, State.setCell, a]
      omega
    · simp [jm_st, u, jm_i, arrV_size, Nat.succ_mul]
      omega
    · show (((jm_st T cO cI N M i).pushCell (jm_i cI M)).setCell T.heap.size (jm_o cO N T.heap.size (i + 1))).heap[q]? = _
      rw [State.heap_setCell_other (Nat.ne_of_gt hq), State.heap_pushCell_of_lt _ _ (show q < (jm_st T cO cI N M i).heap.size by omega)]
      exact k q hq
    · show (((jm_st T cO cI N M i).pushCell (jm_i cI M)).setCell T.heap.size (jm_o cO N T.heap.size (i + 1))).heap[T.heap.size + 1 + j]? = _
      rw [State.heap_setCell_other (show T.heap.size ≠ T.heap.size + 1 + j by omega)]
      by_cases e : j < i
      · rw [State.heap_pushCell_of_lt _ _ (show T.heap.size + 1 + j < (jm_st T cO cI N M i).heap.size by omega)]
        exact r j e
      · have e2 : j = i := by omega
        subst e2
        rw [← a]
        exact State.heap_pushCell_size _ _
theorem jm_top (T : State) (f : JFrame) (cO cI : ClassId) (N M : Nat) : ∀ i, jm_st (T.setTop f) cO cI N M i = (jm_st T cO cI N M i).setTop f
  | 0 => rfl
  | i + 1 => by simp only [jm_st, jm_top T f cO cI N M i, State.heap_setTop, State.pushCell_setTop, State.setCell_setTop]
section JMW
variable {E : CtlPost} {e : Env} {d : Bool} {acts : List Action} {s : State}
theorem jm_wp1 {cI cc : ClassId} {kI : Class} {k : Int32} (hkI : s.vm.classes[cI]? = some kI) (hI : kI.kind = .array cc .int) (hk : ¬ k < 0) (h1 : ¬ k.toNatClampNeg > e.platform.arrayLengthLimit) (h2 : ¬ k.toNatClampNeg * componentBytes .int > e.platform.maxHeapBytes) (c1 : s.heap.size < e.platform.maxCells) (c2 : s.slotsUsed + k.toNatClampNeg ≤ e.platform.maxSlots) {Q : Addr → Pre} (hq : ∀ acts', Q s.heap.size d acts' (s.pushCell (jm_i cI k.toNatClampNeg))) : wp (multianewarray.make cI [k]) Q E e d acts s := by
  rw [multianewarray.make]
  simp only [wp_bind', Jvm.W.ite, hk, if_false, wp_pure', Jvm.W.theClass, hkI, hI, Option.some.injEq, exists_eq_left']
  refine Jvm.W.newArray_of hkI hI h1 h2 c1 c2 rfl fun acts' => ?_
  have q := hq acts'
  unfold jm_i at q
  rw [← arrV_new] at q
  exact q
theorem jm_wp2 {cO cI cc : ClassId} {kO kI : Class} {n k : Int32} (hkO : s.vm.classes[cO]? = some kO) (hO : kO.kind = .array cI (.array .int)) (hkI : s.vm.classes[cI]? = some kI) (hI : kI.kind = .array cc .int) (hn : ¬ n < 0) (hk : ¬ k < 0) (g1 : ¬ n.toNatClampNeg > e.platform.arrayLengthLimit) (g2 : ¬ n.toNatClampNeg * componentBytes (.array .int) > e.platform.maxHeapBytes) (h1 : ¬ k.toNatClampNeg > e.platform.arrayLengthLimit) (h2 : ¬ k.toNatClampNeg * componentBytes .int > e.platform.maxHeapBytes) (c1 : s.heap.size + 1 + n.toNatClampNeg ≤ e.platform.maxCells) (c2 : s.slotsUsed + n.toNatClampNeg + n.toNatClampNeg * k.toNatClampNeg ≤ e.platform.maxSlots) {Q : Addr → Pre} (hq : ∀ d' acts', Q s.heap.size d' acts' (jm_st s cO cI n.toNatClampNeg k.toNatClampNeg n.toNatClampNeg)) : wp (multianewarray.make cO [n, k]) Q E e d acts s := by
  have hf : ([k].find? (· < 0)) = none := by simp [hk]
  rw [multianewarray.make]
  simp only [wp_bind', Jvm.W.ite, hn, if_false, wp_pure', Jvm.W.theClass, hkO, hO, Option.some.injEq, exists_eq_left']
  refine Jvm.W.newArray_of hkO hO g1 g2 (by omega) (by have := Nat.zero_le (n.toNatClampNeg * k.toNatClampNeg); omega) rfl fun acts' => ?_
  have e0 : (s.pushCell { cls := cO, slots := Array.replicate n.toNatClampNeg .null }) = jm_st s cO cI n.toNatClampNeg k.toNatClampNeg 0 := by
    show _ = s.pushCell (jm_o cO n.toNatClampNeg s.heap.size 0)
    have e1 : ({ cls := cO, slots := Array.replicate n.toNatClampNeg .null } : Cell) = jm_o cO n.toNatClampNeg s.heap.size 0 := by
      show ({ cls := cO, slots := Array.replicate n.toNatClampNeg .null, vm := .none } : Cell) = _
      rw [arrV_new]
      unfold jm_o
      refine congrArg (arrV cO n.toNatClampNeg) (funext fun j => ?_)
      rw [if_neg (Nat.not_lt_zero j)]
      rfl
    rw [e1]
  rw [e0]
  simp only [hf]
  rw [ite_self, wp_bind', Std.Legacy.Range.forIn_eq_forIn_range']
  have hsz : ([:n.toNatClampNeg] : Std.Legacy.Range).size = n.toNatClampNeg := by simp [Std.Legacy.Range.size]
  rw [hsz]
  show wp (forIn (List.range' 0 n.toNatClampNeg 1) PUnit.unit _) _ E e d acts' _
  refine wp_forIn_inv (fun rest u => ∃ i, i ≤ n.toNatClampNeg ∧ rest = List.range' i (n.toNatClampNeg - i) ∧ u = jm_st s cO cI n.toNatClampNeg k.toNatClampNeg i) _ _ ⟨0, Nat.zero_le _, rfl, rfl⟩ ?_ ?_
  · rintro x rest u d' acts2 Q' ⟨i, hi, hl, rfl⟩ hnext
    have hlt : i < n.toNatClampNeg := by
      rcases Nat.lt_or_ge i n.toNatClampNeg with h | h
      · exact h
      · rw [show n.toNatClampNeg - i = 0 from by omega] at hl
        cases hl
    rw [show n.toNatClampNeg - i = (n.toNatClampNeg - (i + 1)) + 1 from by omega, List.range'_succ] at hl
    obtain ⟨rfl, hrest⟩ := List.cons.inj hl
    obtain ⟨f1, f2, f3, f4, f5, f6⟩ := jm_is s cO cI n.toNatClampNeg k.toNatClampNeg x
    have hmul : x * k.toNatClampNeg + k.toNatClampNeg ≤ n.toNatClampNeg * k.toNatClampNeg := by
      have := Nat.mul_le_mul_right k.toNatClampNeg (show x + 1 ≤ n.toNatClampNeg from hlt)
      rw [Nat.succ_mul] at this
      exact this
    have hlt0 : s.heap.size < (jm_st s cO cI n.toNatClampNeg k.toNatClampNeg x).heap.size := by rw [f1]; omega
    simp only [wp_bind']
    refine jm_wp1 (by rw [f2]; exact hkI) hI hk h1 h2 (by rw [f1]; omega) (by rw [f3]; omega) fun acts3 => ?_
    simp only [wp_bind', Jvm.W.writeLoc, wp_pure']
    refine ⟨jm_o cO n.toNatClampNeg s.heap.size x, by rw [State.heap_pushCell_of_lt _ _ hlt0]; exact f4, (fun h => by cases h), by unfold jm_o; rw [arrV_size]; exact hlt, ?_, hnext _ _ _ ⟨x + 1, hlt, hrest, ?_⟩⟩
    · simp [State.fitsSlot, State.slotType?, jm_o, arrV, f2, hkO, hO]
      rfl
    · rw [f1, jm_next]
      rfl
  · rintro u d' acts2 ⟨i, hi, hl, rfl⟩
    have hiN : i = n.toNatClampNeg := by
      rcases Nat.lt_or_ge i n.toNatClampNeg with h | h
      · rw [show n.toNatClampNeg - i = (n.toNatClampNeg - (i + 1)) + 1 from by omega, List.range'_succ] at hl
        cases hl
      · omega
    subst hiN
    simp only [wp_pure']
    exact hq _ _
end JMW
section JMS
variable {p : Program} {l : Launch} {e : Env} {R : Room} {s : State} {m : MethodId} {args : Array Value} {below : List Frame} {meth : Method} {c : Code} {T : State} {locs : List Loc} {cells slots : Nat}
theorem jm_stand (X : Stand p l e R s m args below meth c T locs cells slots) (cO cI : ClassId) (N M : Nat) : ∀ i, Stand p l e R s m args below meth c (jm_st T cO cI N M i) (locs ++ (List.range i).map fun j => ⟨T.heap.size, j⟩) (cells + 1 + i) (slots + N + i * M)
  | 0 => by
    have h := X.pushed (jm_o cO N T.heap.size 0)
    unfold jm_o at h
    rw [arrV_size] at h
    simpa [jm_st, jm_o] using h
  | i + 1 => by
    obtain ⟨f1, f2, f3, f4, f5, f6⟩ := jm_is T cO cI N M i
    have lt : T.heap.size < (jm_st T cO cI N M i).heap.size := by omega
    have o2 : ((jm_st T cO cI N M i).pushCell (jm_i cI M)).heap[T.heap.size]? = some (jm_o cO N T.heap.size i) := by rw [State.heap_pushCell_of_lt _ _ lt]; exact f4
    have h := ((jm_stand X cO cI N M i).pushed (jm_i cI M)).stored o2 i (.ref (T.heap.size + 1 + i))
    rw [jm_next, show (jm_i cI M).slots.size = M from arrV_size _ _ _] at h
    have e2 : (locs ++ (List.range (i + 1)).map fun j => (⟨T.heap.size, j⟩ : Loc)) = (locs ++ (List.range i).map fun j => (⟨T.heap.size, j⟩ : Loc)) ++ [⟨T.heap.size, i⟩] := by simp [List.range_succ, List.append_assoc]
    rw [e2, show cells + 1 + (i + 1) = cells + 1 + i + 1 by omega, show slots + N + (i + 1) * M = slots + N + i * M + M by rw [Nat.succ_mul]; omega]
    exact h
end JMS
section JMU
variable {p : Program} {l : Launch} {e : Env} {R : Room} {s : State} {m : MethodId} {args : Array Value} {below : List Frame} {meth : Method} {c : Code} {H : Heap} {locs : List Loc} {cells slots : Nat} {Q : State → Prop}
/-- the instruction -/
theorem jm_W {cc : ByteArray} (hexec : p.tables.exec = Jvm.exec) (hb : c.code = cc) {own : String} {index : Nat} (hown : s.vm.findClass own = some m.cls) (hclink : (Cond.classLink own index ("[" ++ (FieldType.array .int).toString)).before args s = true) (hover : (Cond.arrayOver (.array .int)).before #[] s = true) (harr : (Cond.arrayClass .int).before args s = true)
    {g : JFrame} (hg : g.method = m) (hdg : decode cc g.pc = .ok (.multianewarray index 2, 4)) {n k : Int32} {rest : List Value} (hstack : g.stack = .int k :: .int n :: rest) (hn : ¬ n < 0) (hk : ¬ k < 0) (hb1 : n.toNatClampNeg ≤ 1000) (hb2 : k.toNatClampNeg ≤ 1000) (hcells : cells + (1 + n.toNatClampNeg) ≤ R.cells) (hslots : slots + (n.toNatClampNeg + n.toNatClampNeg * k.toNatClampNeg) ≤ R.slots)
    (kk : ∀ (cA cI : ClassId) (H1 : Heap), s.vm.findClass ("[" ++ (FieldType.array .int).toString) = some cA → s.vm.findClass (FieldType.array .int).toString = some cI → H1.size = H.size + 1 + n.toNatClampNeg → H1[H.size]? = some (jm_o cA n.toNatClampNeg H.size n.toNatClampNeg) → (∀ q : Nat, q < H.size → H1[q]? = H[q]?) → (∀ j : Nat, j < n.toNatClampNeg → H1[H.size + 1 + j]? = some (jm_i cI k.toNatClampNeg)) →
      W p l e R s m args below meth c H1 (locs ++ (List.range n.toNatClampNeg).map fun j => ⟨H.size, j⟩) (cells + (1 + n.toNatClampNeg)) (slots + (n.toNatClampNeg + n.toNatClampNeg * k.toNatClampNeg)) Q { g with pc := g.pc + 4, stack := .ref H.size :: rest }) : W p l e R s m args below meth c H locs cells slots Q g := by
  intro T hT X
  subst hT
  subst hb
  subst hg
  have hpl : e.platform.magicAccessors = ({} : Platform).magicAccessors := by rw [X.admits.platform]
  obtain ⟨comp, cA, kA, hcomp, -, hkA, hkindA, hnameA⟩ := arrayOverA_spec hover
  obtain ⟨comp2, kC, cc, hcomp2, hkC, hkindC⟩ := Cond.arrayClass_spec harr
  cases Option.some.inj (hcomp2.symm.trans hcomp)
  obtain ⟨c0, hfc0, hcl⟩ := Cond.classLink_spec hown hclink e.platform hpl
  cases hnameA.symm.trans hfc0
  obtain ⟨hg₁, hwarm₁, hready₁⟩ := State.classEntry (e := e) X.warmed hcl
  generalize T.vm.noted g.method.cls index (.cls cA) = vm₁ at hg₁ hwarm₁ hready₁
  have hal : s.vm.Alike vm₁ := hwarm₁.alike
  obtain ⟨kA₁, hkA₁, heA⟩ := hal.2.2 _ _ hkA
  obtain ⟨kC₁, hkC₁, heC⟩ := hal.2.2 _ _ hkC
  have hkindA₁ : kA₁.kind = .array comp (.array .int) := by rw [heA]; exact hkindA
  have hkindC₁ : kC₁.kind = .array cc .int := by rw [heC]; exact hkindC
  have X₁ := X.noted hwarm₁
  obtain ⟨hr1, hr2⟩ := X.roomAbove hcells hslots
  have XF := jm_stand X₁ cA comp n.toNatClampNeg k.toNatClampNeg n.toNatClampNeg
  obtain ⟨f1, f2, f3, f4, f5, f6⟩ := jm_is (T.setVm vm₁) cA comp n.toNatClampNeg k.toNatClampNeg n.toNatClampNeg
  rw [show cells + 1 + n.toNatClampNeg = cells + (1 + n.toNatClampNeg) by omega, show slots + n.toNatClampNeg + n.toNatClampNeg * k.toNatClampNeg = slots + (n.toNatClampNeg + n.toNatClampNeg * k.toNatClampNeg) by omega] at XF
  obtain ⟨t', a1, b1⟩ := kk cA comp (jm_st (T.setVm vm₁) cA comp n.toNatClampNeg k.toNatClampNeg n.toNatClampNeg).heap hnameA hcomp f1 f4 f5 f6 _ rfl XF
  refine ⟨t', ?_, b1⟩
  have hl1 : ¬ n.toNatClampNeg > e.platform.arrayLengthLimit := by rw [Launch.admits_arrayLengthLimit X.admits]; omega
  have hh1 : ¬ n.toNatClampNeg * componentBytes (.array .int) > e.platform.maxHeapBytes := by
    rw [Launch.admits_maxHeapBytes X.admits]; show ¬ n.toNatClampNeg * 4 > 536870912; omega
  have hl2 : ¬ k.toNatClampNeg > e.platform.arrayLengthLimit := by rw [Launch.admits_arrayLengthLimit X.admits]; omega
  have hh2 : ¬ k.toNatClampNeg * componentBytes .int > e.platform.maxHeapBytes := by rw [Launch.admits_maxHeapBytes X.admits]; show ¬ k.toNatClampNeg * 4 > 536870912; omega
  jvm_step X.here [hexec, hdg]
  simp only [multianewarray.sem, wp_bind', Jvm.W.resolveClassAt_links (State.method?_setTop g X.here.top) hg₁]
  rw [Jvm.W.popN, if_neg (by decide)]
  refine ⟨g, State.topJava?_setTop' (s := T.setVm vm₁) g X.here.top, [.int n, .int k], rest, rfl, hstack, ?_⟩
  simp only [List.mapM_cons, List.mapM_nil, wp_bind', wp_pure']
  refine jm_wp2 (kO := kA₁) (kI := kC₁) (cI := comp) (cc := cc) hkA₁ hkindA₁ hkC₁ hkindC₁ hn hk hl1 hh1 hl2 hh2 (by show T.heap.size + 1 + _ ≤ _; omega) (by show T.slotsUsed + _ + _ ≤ _; omega) (fun d' acts' => ?_)
  have eS : ((T.setTop g).setVm vm₁).setTop { g with stack := rest } = (T.setVm vm₁).setTop { g with stack := rest } := by
    show ((T.setVm vm₁).setTop g).setTop _ = _
    rw [State.setTop_setTop]
  rw [eS, jm_top]
  simp only [wp_bind', Jvm.W.mark, Jvm.W.pushRef, State.topJava?_setTop' _ XF.here.top, Option.some.injEq, exists_eq_left', State.setTop_setTop, State.heap_setTop]
  intro acts
  simp [jvm, XF.here.top]
  exact a1
end JMU
