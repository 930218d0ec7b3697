/-! what the small machine's words mean in the large one -/
def jx_T : List Cond := lw_tbl.filter goodWord
theorem jx_mem {x : Cond} (i : Nat) (h : (decide (lw_tbl[i]? = some x) && goodWord x) = true) : x ∈ jx_T := by
  simp only [Bool.and_eq_true, decide_eq_true_eq] at h
  exact List.mem_filter.mpr ⟨List.mem_of_getElem? h.1, h.2⟩
theorem jx_T_good {x : Cond} (h : x ∈ jx_T) : (x.onTables && x.keeps) = true ∨ ∃ ty, x = .arrayClass ty := good_of_word (List.mem_filter.mp h).2
def jx_ws (hd : jx_Hd) : List Cond := .code hd.1 hd.2.1 hd.2.2.1 hd.2.2.2.1 :: jx_T
def jx_rm (d : Nat) : Room := { frames := d, cells := 0, slots := 0, locals := 100 * d }
def jx_Rn : Nat → String := fun o => match o with
  | 0 => RX0
  | 1 => RX1
  | 2 => RX2
  | 3 => RX3
  | 4 => RX4
  | 5 => RX5
  | 6 => RX6
  | 7 => RX7
  | 8 => RX8
  | 9 => RX9
  | 10 => RX10
  | 11 => RX11
  | 12 => RX12
  | 13 => RL
  | 14 => RJ6
  | 15 => RJ7
  | 16 => RJ0
  | 17 => RJ1
  | 18 => RJ3
  | _ => ""
def jx_et : Nat → FieldType := fun t => match t with
  | 0 => .int
  | 1 => .byte
  | 2 => .boolean
  | 3 => .long
  | 4 => .object RX1
  | 5 => .object RX2
  | 6 => .object RX3
  | 7 => .object RX9
  | _ => .array .int
def jx_ft : Nat → Nat → FieldType := fun c => match c with
  | 0 => tyX0
  | 1 => tyX1
  | 2 => tyX2
  | 3 => tyX3
  | 4 => tyX4
  | 5 => tyX5
  | 6 => tyX6
  | 7 => tyX7
  | 8 => tyX8
  | 9 => tyX9
  | 10 => tyX10
  | 11 => tyX11
  | _ => tyX12
/-- the sort of a field: 1 int, 2 long, 3 reference, 4 boolean -/
def jx_tag : FieldType → Nat
  | .int => 1
  | .long => 2
  | .boolean => 4
  | .object _ => 3
  | .array _ => 3
  | _ => 0
def jx_opt (α : Int → Nat) (z : Int) : Option Nat := if z < 0 then none else some (α z)
def jx_cv (α : Int → Nat) : jx_V → Value
  | .inl z => .int (Int32.ofInt z)
  | .inr (.inl z) => .long (Int64.ofInt z)
  | .inr (.inr z) => va_rf (jx_opt α z)
def jx_fvl (α : Int → Nat) (w : jx_Wd) (h : jx_H) (k : Int) (ty : FieldType) (j : Nat) : Value := match jx_tag ty with
  | 2 => .long (Int64.ofInt (h k j))
  | 3 => va_rf (jx_opt α (jx_rv w h k j))
  | _ => .int (Int32.ofInt (h k j))
def jx_ent (tA : Nat → ClassId) (α : Int → Nat) (w : jx_Wd) (h : jx_H) (k : Int) : va_E := match w.2.1 k with
  | (0, c, n) => .inr (c, (List.range n).map fun j => jx_fvl α w h k (jx_ft c j) j)
  | (1, t, n) => .inl (tA t, n, .inl fun j => Int32.ofInt (h k (j : Int)))
  | (2, t, n) => .inl (tA t, n, .inr (.inl fun j => Int64.ofInt (h k (j : Int))))
  | (_, t, n) => .inl (tA t, n, .inr (.inr (.inr (.inr fun j => jx_opt α (jx_rv w h k (j : Int))))))
def jx_wl (tA : Nat → ClassId) (α : Int → Nat) (w : jx_Wd) (h : jx_H) : va_W := w.1.map fun k => (α k, jx_ent tA α w h k)
def jx_A (w : jx_Wd) (α : Int → Nat) : Nat → Prop := fun q => ∃ k, k ∈ w.1 ∧ q = α k
def jx_apart (w : jx_Wd) (α : Int → Nat) : Prop := ∀ k, k ∈ w.1 → ∀ k', k' ∈ w.1 → α k = α k' → k = k'
def jx_tys (tA : Nat → ClassId) : List (ClassId × FieldType) := (List.range 9).map fun t => (tA t, jx_et t)
/-- what a world must be -/
def jx_Wok (w : jx_Wd) : Prop := w.1.Nodup ∧ (∀ a, (w.2.1 a).1 < 4 → a ∈ w.1 ∧ 0 ≤ a) ∧ (∀ a, (w.2.1 a).1 = 0 → ∃ q, vwCl[(w.2.1 a).2.1]? = some q ∧ (w.2.1 a).2.2 = q.2.2) ∧ (∀ a, (w.2.1 a).2.2 < 2147483648) ∧ (∀ a, (w.2.1 a).1 = 1 → (w.2.1 a).2.1 ≤ 2) ∧ ∀ a, (w.2.1 a).1 = 3 → 4 ≤ (w.2.1 a).2.1 ∧ (w.2.1 a).2.1 ≤ 8
/-- links to private members of nest mates; they aren't among the words that a call hands on -/
def jx_nests : List (String × Nat × MethodName × String) := [(RX7, 168, yX11_isWithin, RX11), (RX4, 50, yX11_clipped, RX11), (RX11, 34, yX5_init, RX11), (RX11, 41, yX7_init, RX11), (RX11, 48, yX8_init, RX11), (RX11, 55, yX10_init, RX11), (RX11, 62, yX6_init, RX11), (RX11, 80, yX1_init, RX11), (RX0, 50, yX2_init, RX11), (RX0, 51, yX3_init, RX11), (RX4, 17, yX9_init, RX11)]
/-- the String constants: own class, number, as what it goes, its text -/
def jx_SL : List (Nat × Nat × Int × String) := [(7, 150, 2000, "member levy   back   stay   cap    proof  mark   wages  heads  paid   month  hours  price  age    trade  lack   or     and    not    min    max    "), (7, 162, 2001, "<>=#+-*/(),;"), (11, 81, 2002, "member 0 = 0; levy wages / 100; back hours; stay 0; cap paid; proof 6; mark 50;")]
def jx_LE (α : Int → Nat) (A : Nat → Prop) (U : State) (H : Heap) : Prop := vk_S 3 jx_lens jx_byts (fun i => α (2000 + (i : Int))) (fun i => α (2010 + (i : Int))) A U H ∧ (∀ q ∈ jx_SL, vk_R (jx_Rn q.1) q.2.1 q.2.2.2 (α q.2.2.1) U) ∧ va_Z "java/lang/String" "COMPACT_STRINGS" "Z" (.int 1) A U H ∧ ∃ z : Int, va_Z "jdk/internal/util/Preconditions" "SIOOBE_FORMATTER" "Ljava/util/function/BiFunction;" (va_rf (jx_opt α z)) A U H
def jx_E (α : Int → Nat) (A : Nat → Prop) (U : State) (H : Heap) : Prop := (∀ q ∈ jx_nests, va_Nw (.methodLinkNest q.1 q.2.1 q.2.2.1 q.2.2.2) U) ∧ jx_LE α A U H
theorem jx_E.call {α : Int → Nat} {A : Nat → Prop} {s U : State} {H : Heap} {locs : List Loc} (h : jx_E α A s s.heap) (hS : va_S A s.heap H locs) (hW : s.WarmedH U.vm) (hU : U.heap = H) : jx_E α A U U.heap := by
  obtain ⟨h1, h2, h3, h4, z, h5⟩ := h
  rw [hU]
  exact ⟨fun q hq => va_Nw.warmM hW (h1 q hq), (vk_S.moved hW.alike h2).kept hS.2.1, fun q hq => vk_R.warm hW (h3 q hq), (va_Z.moved hW.alike h4).kept hS.2.1, z, (va_Z.moved hW.alike h5).kept hS.2.1⟩
theorem jx_E.blind {α : Int → Nat} {A : Nat → Prop} {U : State} {g : JFrame} {mk : MethodId} {a : Array Value} (h : jx_E α A U U.heap) : jx_E α A (U.calling g mk a) (U.calling g mk a).heap := by
  obtain ⟨h1, h2, h3, h4, z, h5⟩ := h
  exact ⟨fun q hq => va_Nw.same rfl rfl (h1 q hq), vk_S.moved (u := U) (U := U.calling g mk a) (Vm.Alike.refl U.vm) h2, fun q hq => vk_R.same rfl (h3 q hq), va_Z.moved (u := U) (U := U.calling g mk a) (Vm.Alike.refl U.vm) h4, z, va_Z.moved (u := U) (U := U.calling g mk a) (Vm.Alike.refl U.vm) h5⟩
def jx_Pc (w : jx_Wd) (D : va_G) (tA : Nat → ClassId) (α : Int → Nat) (as : List jx_V) (h : jx_H) : Array Value → State → Prop :=
  va_Pc (as.map (jx_cv α)) (fun U => va_P D vwCl (jx_wl tA α w h) U.heap ∧ va_K D vwCl (jx_tys tA) U ∧ jx_apart w α ∧ jx_E α (jx_A w α) U U.heap)
def jx_ro (α : Int → Nat) (rt : Nat) (z : Int) : Option Value := match rt with
  | 0 => none
  | 2 => some (.long (Int64.ofInt z))
  | 3 => some (va_rf (jx_opt α z))
  | _ => some (.int (Int32.ofInt z))
def jx_Qc (w : jx_Wd) (D : va_G) (tA : Nat → ClassId) (α : Int → Nat) (rt : Nat) (K : Int → jx_H → Prop) : Array Value → State → Outcome → State → Prop := fun _ st oc t =>
  (∃ z h', oc = .returned (jx_ro α rt z) ∧ K z h' ∧ va_P D vwCl (jx_wl tA α w h') t.heap) ∧ va_F (jx_A w α) st t
def jx_rok (ret : Option FieldType) (rt : Nat) : Prop := match rt with
  | 0 => ret = none
  | 1 => ret = some .int
  | 2 => ret = some .long
  | 3 => ∃ n, ret = some (.object n)
  | 4 => ret = some .boolean
  | 5 => ret = some .char
  | 6 => ret = some .byte
  | _ => False
/-- what a method's head must be -/
def jx_hok (hd : jx_Hd) : Prop := .code hd.1 hd.2.1 hd.2.2.1 hd.2.2.2.1 ∈ jx_T ∧ .initialized hd.1.cls ∈ jx_T ∧ ((hd.2.2.2.2.2.2.1 = 99 ∧ .static hd.1 ∈ jx_T ∧ (parseMethodDescriptor hd.1.desc).map (fun d => d.parameters.length) = some hd.2.2.2.2.1) ∨ ((hd.2.2.2.2.2.2.1 < 13 ∨ hd.2.2.2.2.2.2.1 = 16) ∧ .instanceMethod hd.1 ∈ jx_T ∧ .selects hd.1.cls hd.1 hd.1 ∈ jx_T ∧ jx_Rn hd.2.2.2.2.2.2.1 = hd.1.cls ∧ (parseMethodDescriptor hd.1.desc).map (fun d => d.parameters.length + 1) = some hd.2.2.2.2.1)) ∧ (hd.1.cls ≠ "java/lang/invoke/MethodHandle" ∧ hd.1.cls ≠ "java/lang/invoke/VarHandle") ∧ plainName hd.1.cls = true ∧ jx_rok hd.2.2.2.1 hd.2.2.2.2.2.1 ∧ hd.2.2.1 ≤ 81
def jx_Cal (w : jx_Wd) (d : Nat) (hd : jx_Hd) (as : List jx_V) (h : jx_H) (K : Int → jx_H → Prop) : Prop :=
  jx_hok hd ∧ ∀ (l : Launch) (D : va_G) (tA : Nat → ClassId) (α : Int → Nat), Met l hd.1 (jx_ws hd) (jx_rm d) (jx_Pc w D tA α as h) (jx_Qc w D tA α hd.2.2.2.2.2.1 K) 0 0 (jx_A w α)
/-- a call from depth d -/
def jx_C (w : jx_Wd) (d : Nat) : jx_Hd → List jx_V → jx_H → (Int → jx_H → Prop) → Prop := fun hd as h K => ∃ d', d' + 1 ≤ d ∧ ∃ K0, jx_Cal w d' hd as h K0 ∧ ∀ z h', K0 z h' → K z h'
theorem jx_C_mono (w : jx_Wd) (d : Nat) : jx_mono (jx_C w d) := fun _ _ _ _ _ hK ⟨d', h1, K0, h2, h3⟩ => ⟨d', h1, K0, h2, fun z h' q => hK z h' (h3 z h' q)⟩
theorem jx_pos {w : jx_Wd} {tA : Nat → ClassId} {α : Int → Nat} {h : jx_H} {a : Int} (ha : a ∈ w.1) : ∃ p : Nat, w.1[p]? = some a ∧ (jx_wl tA α w h)[p]? = some (α a, jx_ent tA α w h a) := by
  obtain ⟨p, hp⟩ := List.getElem?_of_mem ha
  exact ⟨p, hp, by unfold jx_wl; rw [List.getElem?_map, hp]; rfl⟩
theorem jx_wset {w : jx_Wd} {tA : Nat → ClassId} {α : Int → Nat} {h h' : jx_H} {a : Int} {p : Nat} {e : va_E} (hn : w.1.Nodup) (hp : w.1[p]? = some a) (he : jx_ent tA α w h' a = e) (ho : ∀ b, b ≠ a → jx_ent tA α w h' b = jx_ent tA α w h b) : (jx_wl tA α w h).set p (α a, e) = jx_wl tA α w h' := by
  apply List.ext_getElem?
  intro i
  have hl : p < w.1.length := (List.getElem?_eq_some_iff.mp hp).1
  by_cases hi : i = p
  · subst hi
    rw [List.getElem?_set_self (by unfold jx_wl; rw [List.length_map]; exact hl)]
    unfold jx_wl
    rw [List.getElem?_map, hp]
    exact congrArg (fun x => some (α a, x)) he.symm
  · rw [List.getElem?_set_ne (Ne.symm hi)]
    unfold jx_wl
    rw [List.getElem?_map, List.getElem?_map]
    cases hb : w.1[i]? with
    | none => rfl
    | some b =>
      have hba : b ≠ a := by
        rintro rfl
        have h1 := (List.getElem?_eq_some_iff.mp hb)
        have h2 := (List.getElem?_eq_some_iff.mp hp)
        exact hi ((List.getElem?_inj h1.1 hn).mp (hb.trans hp.symm))
      show some (α b, jx_ent tA α w h b) = some (α b, jx_ent tA α w h' b)
      rw [ho b hba]
theorem jx_D {w : jx_Wd} {tA : Nat → ClassId} {α : Int → Nat} (h : jx_H) (hn : w.1.Nodup) (ha : jx_apart w α) : va_D (jx_A w α) (jx_wl tA α w h) := by
  refine ⟨fun i j p q hi hj hpq => ?_, fun k q hk => ?_⟩
  · unfold jx_wl at hi hj
    rw [List.getElem?_map] at hi hj
    cases h1 : w.1[i]? with
    | none => rw [h1] at hi; cases hi
    | some a =>
      cases h2 : w.1[j]? with
      | none => rw [h2] at hj; cases hj
      | some b =>
        rw [h1] at hi; rw [h2] at hj
        cases hi; cases hj
        have hab := ha a (List.mem_of_getElem? h1) b (List.mem_of_getElem? h2) hpq
        subst hab
        have e1 := (List.getElem?_eq_some_iff.mp h1)
        have e2 := (List.getElem?_eq_some_iff.mp h2)
        exact (List.getElem?_inj e1.1 hn).mp (h1.trans h2.symm)
  · unfold jx_wl at hk
    rw [List.getElem?_map] at hk
    cases h1 : w.1[k]? with
    | none => rw [h1] at hk; cases hk
    | some a => rw [h1] at hk; cases hk; exact ⟨a, List.mem_of_getElem? h1, rfl⟩
