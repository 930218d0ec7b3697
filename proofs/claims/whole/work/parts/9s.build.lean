/-! worlds that grow: a part of a world's cells, with every reference in the heap -/
def wP (sg : List jx_Sg) (P : Int → Bool) : jx_Wd := ((jx_ids sg).filter P, fun a => if P a = true then jx_kd sg a else (9, 0, 0), fun _ _ => -2)
theorem wP_ok {sg : List jx_Sg} (hn : (jx_ids sg).Nodup) (hk : jx_sgok sg = true) (P : Int → Bool) : jx_Wok (wP sg P) := by
  obtain ⟨w1, w2, w3, w4, w5, w6⟩ := jx_Wok_of (rs := fun _ _ => -2) hn hk
  have k9 : ∀ a, (wP sg P).2.1 a = if P a = true then jx_kd sg a else (9, 0, 0) := fun _ => rfl
  refine ⟨w1.filter P, fun a ha => ?_, fun a ha => ?_, fun a => ?_, fun a ha => ?_, fun a ha => ?_⟩
  · rw [k9] at ha
    by_cases hp : P a = true
    · rw [if_pos hp] at ha
      exact ⟨List.mem_filter.mpr ⟨(w2 a ha).1, hp⟩, (w2 a ha).2⟩
    · rw [if_neg hp] at ha
      exact absurd ha (by decide)
  · rw [k9] at ha ⊢
    by_cases hp : P a = true
    · rw [if_pos hp] at ha ⊢
      exact w3 a ha
    · rw [if_neg hp] at ha
      exact absurd ha (by decide)
  · rw [k9]
    by_cases hp : P a = true
    · rw [if_pos hp]
      exact w4 a
    · rw [if_neg hp]
      decide
  · rw [k9] at ha ⊢
    by_cases hp : P a = true
    · rw [if_pos hp] at ha ⊢
      exact w5 a ha
    · rw [if_neg hp] at ha
      exact absurd ha (by decide)
  · rw [k9] at ha ⊢
    by_cases hp : P a = true
    · rw [if_pos hp] at ha ⊢
      exact w6 a ha
    · rw [if_neg hp] at ha
      exact absurd ha (by decide)
theorem wP_kd {sg : List jx_Sg} {P : Int → Bool} {a : Int} (h : P a = true) : (wP sg P).2.1 a = jx_kd sg a := if_pos h
theorem wP_mem {sg : List jx_Sg} {P : Int → Bool} {a : Int} : a ∈ (wP sg P).1 ↔ a ∈ jx_ids sg ∧ P a = true := List.mem_filter
/-- a place that holds a reference -/
def rfC (sg : List jx_Sg) (k : Int) (j : Nat) : Prop := match jx_kd sg k with
  | (0, c, _) => jx_tag (jx_ft c j) = 3
  | (1, _, _) => False
  | (2, _, _) => False
  | _ => True
/-- what a place holds when it is new -/
def NewRow (sg : List jx_Sg) (h : jx_H) (a : Int) : Prop := ∀ j : Nat, (rfC sg a j → h a (j : Int) = -1) ∧ (¬ rfC sg a j → h a (j : Int) = 0)
/-- no reference goes out of those that there are -/
def RefIn (sg : List jx_Sg) (P : Int → Bool) (h : jx_H) : Prop := ∀ k, P k = true → ∀ j : Nat, rfC sg k j → h k (j : Int) < 0 ∨ P (h k (j : Int)) = true
theorem ent_P {tA : Nat → ClassId} {α : Int → Nat} {sg : List jx_Sg} {P P' : Int → Bool} {h : jx_H} {k : Int} (h1 : P k = true) (h2 : P' k = true) : jx_ent tA α (wP sg P) h k = jx_ent tA α (wP sg P') h k := by
  unfold jx_ent
  rw [wP_kd h1, wP_kd h2]
  rfl
theorem ent_al {tA : Nat → ClassId} {α α' : Int → Nat} {sg : List jx_Sg} {P : Int → Bool} {h : jx_H} {k : Int} (hP : P k = true) (e : ∀ j : Nat, rfC sg k j → 0 ≤ h k (j : Int) → α' (h k (j : Int)) = α (h k (j : Int))) : jx_ent tA α' (wP sg P) h k = jx_ent tA α (wP sg P) h k := by
  have hopt : ∀ j : Nat, rfC sg k j → jx_opt α' (h k (j : Int)) = jx_opt α (h k (j : Int)) := fun j hr => by
    unfold jx_opt
    by_cases hz : h k (j : Int) < 0
    · rw [if_pos hz, if_pos hz]
    · rw [if_neg hz, if_neg hz, e j hr (by omega)]
  unfold jx_ent
  rw [wP_kd hP]
  unfold rfC at hopt
  generalize jx_kd sg k = q at hopt
  obtain ⟨g, t, n⟩ := q
  match g with
  | 0 =>
    show (Sum.inr (t, (List.range n).map fun j => jx_fvl α' (wP sg P) h k (jx_ft t j) j) : va_E) = Sum.inr (t, (List.range n).map fun j => jx_fvl α (wP sg P) h k (jx_ft t j) j)
    refine congrArg (fun z => (Sum.inr (t, z) : va_E)) (List.map_congr_left fun j _ => ?_)
    unfold jx_fvl
    split
    · rfl
    · rename_i h3
      show va_rf (jx_opt α' (h k (j : Int))) = va_rf (jx_opt α (h k (j : Int)))
      rw [hopt j h3]
    · rfl
  | 1 => rfl
  | 2 => rfl
  | g + 3 =>
    show (Sum.inl (tA t, n, Sum.inr (Sum.inr (Sum.inr (Sum.inr fun j : Nat => jx_opt α' (h k (j : Int)))))) : va_E) = Sum.inl (tA t, n, Sum.inr (Sum.inr (Sum.inr (Sum.inr fun j : Nat => jx_opt α (h k (j : Int))))))
    exact congrArg (fun z => (Sum.inl (tA t, n, Sum.inr (Sum.inr (Sum.inr (Sum.inr z)))) : va_E)) (funext fun j => hopt j True.intro)
def ad (P : Int → Bool) (a : Int) : Int → Bool := fun k => P k || decide (k = a)
theorem ad_iff {P : Int → Bool} {a k : Int} : ad P a k = true ↔ P k = true ∨ k = a := by
  unfold ad
  rw [Bool.or_eq_true, decide_eq_true_eq]
/-- the cells of a growing world, when one comes -/
theorem wl_new {D : va_G} {tA : Nat → ClassId} {α : Int → Nat} {sg : List jx_Sg} {P : Int → Bool} {h : jx_H} {H H1 : Heap} {a : Int} (hP : va_P D vwCl (jx_wl tA α (wP sg P) h) H) (ho : ∀ q, q < H.size → H1[q]? = H[q]?) (ha : ¬ P a = true) (hr : RefIn sg P h) (h0 : 0 ≤ a) (hn : va_at D vwCl (H.size, jx_ent tA (fun k => if k = a then H.size else α k) (wP sg (ad P a)) h a) H1) : va_P D vwCl (jx_wl tA (fun k => if k = a then H.size else α k) (wP sg (ad P a)) h) H1 := by
  intro i q hi
  obtain ⟨k, hk, rfl⟩ := List.mem_map.mp (List.mem_of_getElem? hi)
  obtain ⟨k1, k2⟩ := wP_mem.mp hk
  by_cases e : k = a
  · subst e
    show va_at D vwCl ((if k = k then H.size else α k), _) H1
    rw [if_pos rfl]
    exact hn
  · have hp : P k = true := by
      rcases ad_iff.mp k2 with z | z
      · exact z
      · exact absurd z e
    have e1 : jx_ent tA (fun k => if k = a then H.size else α k) (wP sg (ad P a)) h k = jx_ent tA α (wP sg P) h k := by
      rw [ent_P (P' := P) k2 hp, ent_al (α := α) hp fun j hj h0 => ?_]
      show (if h k (j : Int) = a then H.size else α (h k (j : Int))) = _
      rw [if_neg fun z => ?_]
      rcases hr k hp j hj with y | y
      · omega
      · rw [z] at y; exact ha y
    show va_at D vwCl ((if k = a then H.size else α k), _) H1
    rw [if_neg e, e1]
    obtain ⟨i2, hi2⟩ := List.getElem?_of_mem (wP_mem.mpr ⟨k1, hp⟩)
    have x := hP i2 (α k, jx_ent tA α (wP sg P) h k) (by unfold jx_wl; rw [List.getElem?_map, hi2]; rfl)
    exact x.kept (ho _ x.lt)
theorem wl_lt {D : va_G} {tA : Nat → ClassId} {α : Int → Nat} {w : jx_Wd} {h : jx_H} {H : Heap} (hP : va_P D vwCl (jx_wl tA α w h) H) {k : Int} (hk : k ∈ w.1) : α k < H.size := by
  obtain ⟨i2, hi2⟩ := List.getElem?_of_mem hk
  exact (hP i2 (α k, jx_ent tA α w h k) (by unfold jx_wl; rw [List.getElem?_map, hi2]; rfl)).lt
/-- what a growing world's addresses keep -/
def jb_al (s : State) (sg : List jx_Sg) (α0 : Int → Nat) (P0 P : Int → Bool) (α : Int → Nat) : Prop := (∀ k, (P0 k = true ∨ 1000 ≤ k) → α k = α0 k) ∧ (∀ k, k ∈ jx_ids sg → P k = true → P0 k = true ∨ s.heap.size ≤ α k) ∧ jx_apart (wP sg P) α ∧ ∀ k, P0 k = true → P k = true
theorem al_new {s : State} {D : va_G} {tA : Nat → ClassId} {sg : List jx_Sg} {α0 α : Int → Nat} {P0 P : Int → Bool} {h : jx_H} {H : Heap} {a : Int} (hal : jb_al s sg α0 P0 P α) (hP : va_P D vwCl (jx_wl tA α (wP sg P) h) H) (hs : s.heap.size ≤ H.size) (ha : ¬ P a = true) (h1 : a < 1000) : jb_al s sg α0 P0 (ad P a) (fun k => if k = a then H.size else α k) := by
  obtain ⟨c1, c2, c3, c4⟩ := hal
  refine ⟨fun k hk => ?_, fun k hi hk => ?_, fun k hk k' hk' e => ?_, fun k hk => by show (P k || decide (k = a)) = true; rw [c4 k hk]; rfl⟩
  · show (if k = a then H.size else α k) = α0 k
    rw [if_neg fun z => ?_]
    · exact c1 k hk
    · subst z
      rcases hk with y | y
      · exact ha (c4 _ y)
      · omega
  · show P0 k = true ∨ s.heap.size ≤ (if k = a then H.size else α k)
    by_cases e : k = a
    · rw [if_pos e]; exact Or.inr hs
    · rw [if_neg e]
      rcases ad_iff.mp hk with z | z
      · exact c2 k hi z
      · exact absurd z e
  · have e : (if k = a then H.size else α k) = (if k' = a then H.size else α k') := e
    obtain ⟨k1, k2⟩ := wP_mem.mp hk
    obtain ⟨k3, k4⟩ := wP_mem.mp hk'
    have old : ∀ x, x ∈ jx_ids sg → ad P a x = true → x ≠ a → x ∈ (wP sg P).1 := fun x x1 x2 x3 => by
      rcases ad_iff.mp x2 with z | z
      · exact wP_mem.mpr ⟨x1, z⟩
      · exact absurd z x3
    by_cases e1 : k = a
    · by_cases e2 : k' = a
      · rw [e1, e2]
      · rw [if_pos e1, if_neg e2] at e
        have := wl_lt hP (old k' k3 k4 e2)
        omega
    · by_cases e2 : k' = a
      · rw [if_neg e1, if_pos e2] at e
        have := wl_lt hP (old k k1 k2 e1)
        omega
      · rw [if_neg e1, if_neg e2] at e
        exact c3 k (old k k1 k2 e1) k' (old k' k3 k4 e2) e
/-- rows of references are there to be made -/
def jb_AO (U : State) : Prop := (∀ C, (C = RX1 ∨ C = RX2 ∨ C = RX3 ∨ C = RX9) → va_AO C U) ∧ (Cond.arrayOver (.array .int)).before #[] U = true
theorem jb_AO.moved {u U : State} (hvm : u.vm.Alike U.vm) (h : jb_AO u) : jb_AO U := ⟨fun C hC => va_AO.moved hvm (h.1 C hC), over_moved hvm h.2⟩
/-- the strings, the nests: the formatter is none of the cells -/
def jb_E (α : Int → Nat) (A : Nat → Prop) (U : State) (H : Heap) : Prop := jb_AO U ∧ (∀ q ∈ jx_nests, va_Nw (.methodLinkNest q.1 q.2.1 q.2.2.1 q.2.2.2) U) ∧ vk_S 3 jx_lens jx_byts (fun i => α (2000 + (i : Int))) (fun i => α (2010 + (i : Int))) A U H ∧ (∀ q ∈ jx_SL, vk_R (jx_Rn q.1) q.2.1 q.2.2.2 (α q.2.2.1) U) ∧ va_Z "java/lang/String" "COMPACT_STRINGS" "Z" (.int 1) A U H ∧ ∃ z : Int, (z < 0 ∨ 1000 ≤ z) ∧ va_Z "jdk/internal/util/Preconditions" "SIOOBE_FORMATTER" "Ljava/util/function/BiFunction;" (va_rf (jx_opt α z)) A U H
theorem jb_E.e {α : Int → Nat} {A : Nat → Prop} {U : State} {H : Heap} (h : jb_E α A U H) : jx_E α A U H := by
  obtain ⟨-, h1, h2, h3, h4, z, -, h5⟩ := h
  exact ⟨h1, h2, h3, h4, z, h5⟩
theorem jb_E.al {s : State} {sg : List jx_Sg} {α0 α : Int → Nat} {P0 P : Int → Bool} {H : Heap} (h : jb_E α0 (fun q => jx_A (wP sg P0) α0 q ∨ s.heap.size ≤ q) s H) (hal : jb_al s sg α0 P0 P α) : jb_E α (fun q => jx_A (wP sg P) α q ∨ s.heap.size ≤ q) s H := by
  have hAB : ∀ q, (jx_A (wP sg P) α q ∨ s.heap.size ≤ q) → jx_A (wP sg P0) α0 q ∨ s.heap.size ≤ q := fun q hq => by
    rcases hq with hq | hq
    case inr => exact Or.inr hq
    obtain ⟨k, hk, rfl⟩ := hq
    obtain ⟨k1, k2⟩ := wP_mem.mp hk
    rcases hal.2.1 k k1 k2 with z | z
    · exact Or.inl ⟨k, wP_mem.mpr ⟨k1, z⟩, hal.1 k (Or.inl z)⟩
    · exact Or.inr z
  obtain ⟨h0, h1, h2, h3, h4, z, h5, h6⟩ := h
  have eα : ∀ k, 1000 ≤ k → α k = α0 k := fun k hk => hal.1 k (Or.inr hk)
  refine ⟨h0, h1, ?_, fun q hq => ?_, va_Z.narrow h4 hAB, z, h5, ?_⟩
  · have e1 : (fun i : Nat => α (2000 + (i : Int))) = fun i : Nat => α0 (2000 + (i : Int)) := funext fun i => eα _ (by omega)
    have e2 : (fun i : Nat => α (2010 + (i : Int))) = fun i : Nat => α0 (2010 + (i : Int)) := funext fun i => eα _ (by omega)
    rw [e1, e2]
    exact vk_S.narrow h2 hAB
  · have x := h3 q hq
    rw [eα q.2.2.1 (by
      unfold jx_SL at hq
      simp only [List.mem_cons, List.not_mem_nil, or_false] at hq
      rcases hq with rfl | rfl | rfl <;> decide)]
    exact x
  · have e3 : jx_opt α z = jx_opt α0 z := by
      unfold jx_opt
      by_cases hz : z < 0
      · rw [if_pos hz, if_pos hz]
      · rw [if_neg hz, if_neg hz, eα z (by omega)]
    rw [e3]
    exact va_Z.narrow h6 hAB
theorem jb_E.narrow {α : Int → Nat} {A B : Nat → Prop} {U : State} {H : Heap} (h : jb_E α A U H) (hAB : ∀ q, B q → A q) : jb_E α B U H := by
  obtain ⟨h0, h1, h2, h3, h4, z, h5, h6⟩ := h
  exact ⟨h0, h1, vk_S.narrow h2 hAB, h3, va_Z.narrow h4 hAB, z, h5, va_Z.narrow h6 hAB⟩
/-- a growing world's judgement -/
def jb_G (p : Program) (l : Launch) (e : Env) (s : State) (m : MethodId) (args : Array Value) (below : List Frame) (meth : Method) (c : Code) (Q : State → Prop) (R : Room) (hd : jx_Hd) (sg : List jx_Sg) (D : va_G) (tA : Nat → ClassId) (α0 : Int → Nat) (P0 : Int → Bool) (P : Int → Bool) (cn sn : Nat) : Nat → jx_L → List jx_V → jx_H → Prop :=
  fun pc lv st h => ∃ _u : Unit, ∀ α, jb_al s sg α0 P0 P α → jx_Gd p l e s m args below meth c Q R cn sn hd (wP sg P) D tA α pc lv st h
theorem jb_G.a {p : Program} {l : Launch} {e : Env} {s : State} {m : MethodId} {args : Array Value} {below : List Frame} {meth : Method} {c : Code} {Q : State → Prop} {R : Room} {hd : jx_Hd} {sg : List jx_Sg} {D : va_G} {tA : Nat → ClassId} {α0 : Int → Nat} {P0 P : Int → Bool} {cn sn pc : Nat} {lv : jx_L} {st : List jx_V} {h : jx_H} (k : jb_G p l e s m args below meth c Q R hd sg D tA α0 P0 P cn sn pc lv st h) : ∀ α, jb_al s sg α0 P0 P α → jx_Gd p l e s m args below meth c Q R cn sn hd (wP sg P) D tA α pc lv st h := by
  obtain ⟨-, k⟩ := k
  exact k
def jb_Ctx (p : Program) (s : State) (m : MethodId) (args : Array Value) (meth : Method) (c : Code) (o : Nat) (hd : jx_Hd) (sg : List jx_Sg) (D : va_G) (tA : Nat → ClassId) (α0 : Int → Nat) (P0 : Int → Bool) : Prop :=
  p.tables.exec = Jvm.exec ∧ c.code = hd.2.1 ∧ meth.sig.returnType = none ∧ c.maxLocals = hd.2.2.1 ∧ s.vm.findClass (jx_Rn o) = some m.cls ∧ (∀ x ∈ jx_T, x.before args s = true) ∧ meth.locks = false ∧ va_K D vwCl (jx_tys tA) s ∧ jb_E α0 (fun q => jx_A (wP sg P0) α0 q ∨ s.heap.size ≤ q) s s.heap ∧ ((jx_ids sg).Nodup ∧ jx_sgok sg = true) ∧ hd.2.2.2.1 = none ∧ meth.name = "<init>"
section JBS
variable {p : Program} {l : Launch} {e : Env} {s : State} {m : MethodId} {args : Array Value} {below : List Frame} {meth : Method} {c : Code} {Q : State → Prop}
variable {o d cn sn : Nat} {R : Room} {hd : jx_Hd} {sg : List jx_Sg} {D : va_G} {tA : Nat → ClassId} {α0 : Int → Nat} {P0 P : Int → Bool} {pc : Nat} {lv : jx_L} {st : List jx_V} {h : jx_H}
theorem jb_Ctx.x (X : jb_Ctx p s m args meth c o hd sg D tA α0 P0) {α : Int → Nat} (hal : jb_al s sg α0 P0 P α) : jx_Ctx p s m args meth c o hd (wP sg P) D tA α := by
  obtain ⟨h1, h2, h3, h4, h5, h6, h7, h8, h9, h10, h11, -⟩ := X
  exact ⟨h1, h2, by rw [h3, h11], h4, h5, h6, h7, h8, hal.2.2.1, ((h9.al hal).narrow fun q hq => Or.inl hq).e, wP_ok h10.1 h10.2 P⟩
/-- what makes nothing and doesn't return is as in any world -/
theorem jb_sound (X : jb_Ctx p s m args meth c o hd sg D tA α0 P0) (hRd : (d ≤ R.frames ∧ 100 * d ≤ R.locals) ∧ cn ≤ R.cells ∧ sn ≤ R.slots) (h1d : 1 ≤ d) {T : List jx_En} (hT : jx_tab o hd T = true) (hrt : hd.2.2.2.2.2.1 = 0) : jx_OK (wP sg P) (jx_C (wP sg P) d) (fun _ _ => False) hd.2.2.2.2.2.1 T (jb_G p l e s m args below meth c Q R hd sg D tA α0 P0 P cn sn) := by
  have hr : jx_rok hd.2.2.2.1 hd.2.2.2.2.2.1 := by rw [hrt, X.2.2.2.2.2.2.2.2.2.2.1]; rfl
  refine ⟨fun pc lv st h hn => ⟨(), fun α hal => ?_⟩, fun pc lv keep st h hn => ⟨(), fun α hal => ?_⟩⟩
  · have S := jx_sound (p := p) (l := l) (e := e) (s := s) (m := m) (args := args) (below := below) (meth := meth) (c := c) (Q := Q) (d := d) (K := fun _ _ => False) (X.x hal) hRd (fun ⟨_, _, z⟩ => z.elim) hr h1d hT
    refine S.1 pc lv st h ?_
    unfold jx_one at hn ⊢
    generalize jx_at T pc = suf at hn ⊢
    cases suf with
    | nil => exact hn.elim
    | cons en r =>
      refine jx_nx_m (jx_C_mono (wP sg P) d) (fun lv st h hq => ?_) (fun t lv st h hq => ?_) hn
      · cases r with
        | nil => exact hq.elim
        | cons e2 r2 => exact hq.a α hal
      · generalize jx_at T t = suf2 at hq ⊢
        cases suf2 with
        | nil => exact hq.elim
        | cons e2 r2 => exact hq.a α hal
  · have S := jx_sound (p := p) (l := l) (e := e) (s := s) (m := m) (args := args) (below := below) (meth := meth) (c := c) (Q := Q) (d := d) (K := fun _ _ => False) (X.x hal) hRd (fun ⟨_, _, z⟩ => z.elim) hr h1d hT
    exact S.2 pc lv keep st h (hn.a α hal)
end JBS
