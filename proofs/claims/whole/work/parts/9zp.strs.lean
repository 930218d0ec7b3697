/-! what the start gives: classes, array classes, the texts -/
theorem lz_in : ∀ (c : Nat) (q : vw_C), vwCl[c]? = some q → Cond.instantiable q.1 q.2.2 ∈ jx_T := by
  intro c q h
  match c, h with
  | 0, h => cases h; exact jx_mem 135 (by decide +kernel)
  | 1, h => cases h; exact jx_mem 467 (by decide +kernel)
  | 2, h => cases h; exact jx_mem 149 (by decide +kernel)
  | 3, h => cases h; exact jx_mem 176 (by decide +kernel)
  | 4, h => cases h; exact jx_mem 286 (by decide +kernel)
  | 5, h => cases h; exact jx_mem 340 (by decide +kernel)
  | 6, h => cases h; exact jx_mem 454 (by decide +kernel)
  | 7, h => cases h; exact jx_mem 360 (by decide +kernel)
  | 8, h => cases h; exact jx_mem 413 (by decide +kernel)
  | 9, h => cases h; exact jx_mem 293 (by decide +kernel)
  | 10, h => cases h; exact jx_mem 432 (by decide +kernel)
  | 11, h => cases h; exact jx_mem 127 (by decide +kernel)
  | 12, h => cases h; exact jx_mem 1183 (by decide +kernel)
  | k + 13, h => cases h
theorem lz_D {args : Array Value} {s : State} (ht : ∀ x ∈ jx_T, x.before args s = true) : ∃ D : va_G, ∀ (c : Nat) (q : vw_C), vwCl[c]? = some q → u_Kn s q.1 q.2.1 q.2.2 (D.1 c) (D.2 c) := by
  have h0 : ∀ c : Nat, ∃ x : ClassId × (Nat → Nat), ∀ q : vw_C, vwCl[c]? = some q → u_Kn s q.1 q.2.1 q.2.2 x.1 x.2 := by
    intro c
    cases h : vwCl[c]? with
    | none => exact ⟨(0, fun _ => 0), fun q hq => by cases hq⟩
    | some q =>
      obtain ⟨cC, iS, k⟩ := u_known (n := q.2.2) ht (jx_cls c q h).1 (ht _ (lz_in c q h))
      exact ⟨(cC, iS), fun q2 hq => by cases hq; exact k⟩
  obtain ⟨f, hf⟩ := Classical.axiomOfChoice h0
  exact ⟨(fun c => (f c).1, fun c => (f c).2), hf⟩
theorem lz_prim {args : Array Value} {s : State} {ty : FieldType} (h : (Cond.arrayClass ty).before args s = true) (hp : ∀ cA : ClassId, s.vm.findClass ("[" ++ ty.toString) = some cA → va_RA s cA ty) : ∃ cA : ClassId, ArrOfT s cA ty ∧ va_RA s cA ty := by
  obtain ⟨c, k, comp, h1, h2, h3⟩ := Cond.arrayClass_spec h
  exact ⟨c, fun n z => ⟨fun k h => (by cases h), k, h2, comp, h3⟩, hp c h1⟩
theorem lz_obj {args : Array Value} {s : State} {C : String} (h : (Cond.arrayOver (.object C)).before args s = true) : ∃ cA : ClassId, ArrOfT s cA (.object C) ∧ va_RA s cA (.object C) := by
  obtain ⟨comp, c, k, h1, -, h3, h4, h5⟩ := Cond.arrayOver_spec h
  exact ⟨c, fun n z => ⟨fun k h => (by cases h), k, h3, comp, h4⟩, k, comp, h3, h4, h1, h5⟩
theorem lz_arr {args : Array Value} {s : State} {t : FieldType} (h : (Cond.arrayOver (.array t)).before args s = true) : ∃ cA : ClassId, ArrOfT s cA (.array t) ∧ va_RA s cA (.array t) := by
  obtain ⟨comp, c, k, h1, -, h3, h4, h5⟩ := arrayOverA_spec h
  exact ⟨c, fun n z => ⟨fun k h => (by cases h), k, h3, comp, h4⟩, h5⟩
theorem lz_tA {args : Array Value} {s : State} (hts : ∀ w ∈ lw_tbl, w.before args s = true) : ∃ tA : Nat → ClassId, ∀ t : Nat, t < 9 → ArrOfT s (tA t) (jx_et t) ∧ va_RA s (tA t) (jx_et t) := by
  have h0 : ∀ t : Nat, ∃ cA : ClassId, t < 9 → ArrOfT s cA (jx_et t) ∧ va_RA s cA (jx_et t) := by
    intro t
    match t with
    | 0 => obtain ⟨c, hc⟩ := lz_prim (ty := .int) (s := s) (hts _ (List.mem_of_getElem? (i := 175) (by decide +kernel))) (fun _ h => h); exact ⟨c, fun _ => hc⟩
    | 1 => obtain ⟨c, hc⟩ := lz_prim (ty := .byte) (s := s) (hts _ (List.mem_of_getElem? (i := 411) (by decide +kernel))) (fun _ h => h); exact ⟨c, fun _ => hc⟩
    | 2 => obtain ⟨c, hc⟩ := lz_prim (ty := .boolean) (s := s) (hts _ (List.mem_of_getElem? (i := 1330) (by decide +kernel))) (fun _ h => h); exact ⟨c, fun _ => hc⟩
    | 3 => obtain ⟨c, hc⟩ := lz_prim (ty := .long) (s := s) (hts _ (List.mem_of_getElem? (i := 1331) (by decide +kernel))) (fun _ h => h); exact ⟨c, fun _ => hc⟩
    | 4 => obtain ⟨c, hc⟩ := lz_obj (C := RX1) (s := s) (hts _ (List.mem_of_getElem? (i := 284) (by decide +kernel))); exact ⟨c, fun _ => hc⟩
    | 5 => obtain ⟨c, hc⟩ := lz_obj (C := RX2) (s := s) (hts _ (List.mem_of_getElem? (i := 143) (by decide +kernel))); exact ⟨c, fun _ => hc⟩
    | 6 => obtain ⟨c, hc⟩ := lz_obj (C := RX3) (s := s) (hts _ (List.mem_of_getElem? (i := 145) (by decide +kernel))); exact ⟨c, fun _ => hc⟩
    | 7 => obtain ⟨c, hc⟩ := lz_obj (C := RX9) (s := s) (hts _ (List.mem_of_getElem? (i := 292) (by decide +kernel))); exact ⟨c, fun _ => hc⟩
    | 8 => obtain ⟨c, hc⟩ := lz_arr (t := .int) (s := s) (hts _ (List.mem_of_getElem? (i := 141) (by decide +kernel))); exact ⟨c, fun _ => hc⟩
    | t + 9 => exact ⟨0, fun h => absurd h (by omega)⟩
  exact Classical.axiomOfChoice h0
theorem lz_K {D : va_G} {tA : Nat → ClassId} {s : State} (hD : ∀ (c : Nat) (q : vw_C), vwCl[c]? = some q → u_Kn s q.1 q.2.1 q.2.2 (D.1 c) (D.2 c)) (hT : ∀ t : Nat, t < 9 → ArrOfT s (tA t) (jx_et t) ∧ va_RA s (tA t) (jx_et t)) : va_K D vwCl (jx_tys tA) s := by
  refine ⟨hD, fun k q hq => ?_⟩
  by_cases hk : k < 9
  · rw [jx_ty hk] at hq
    cases hq
    exact hT k hk
  · have hl : (jx_tys tA).length = 9 := rfl
    rw [List.getElem?_eq_none (by omega)] at hq
    cases hq
theorem lz_AO {args : Array Value} {s : State} (hts : ∀ w ∈ lw_tbl, w.before args s = true) : jb_AO s := by
  refine ⟨fun C hC => ?_, over_moved (Vm.Alike.refl s.vm) (hts _ (List.mem_of_getElem? (i := 141) (by decide +kernel)))⟩
  rcases hC with rfl | rfl | rfl | rfl
  · exact va_AO.of (hts _ (List.mem_of_getElem? (i := 284) (by decide +kernel)))
  · exact va_AO.of (hts _ (List.mem_of_getElem? (i := 143) (by decide +kernel)))
  · exact va_AO.of (hts _ (List.mem_of_getElem? (i := 145) (by decide +kernel)))
  · exact va_AO.of (hts _ (List.mem_of_getElem? (i := 292) (by decide +kernel)))
theorem lz_nests {args : Array Value} {s : State} (hts : ∀ w ∈ lw_tbl, w.before args s = true) : ∀ q ∈ jx_nests, va_Nw (.methodLinkNest q.1 q.2.1 q.2.2.1 q.2.2.2) s := by
  intro q hq
  unfold jx_nests at hq
  simp only [List.mem_cons, List.not_mem_nil, or_false] at hq
  rcases hq with rfl | rfl | rfl | rfl | rfl | rfl | rfl | rfl | rfl | rfl | rfl
  · exact va_Nw.of rfl (hts _ (List.mem_of_getElem? (i := 571) (by decide +kernel)))
  · exact va_Nw.of rfl (hts _ (List.mem_of_getElem? (i := 1013) (by decide +kernel)))
  · exact va_Nw.of rfl (hts _ (List.mem_of_getElem? (i := 341) (by decide +kernel)))
  · exact va_Nw.of rfl (hts _ (List.mem_of_getElem? (i := 361) (by decide +kernel)))
  · exact va_Nw.of rfl (hts _ (List.mem_of_getElem? (i := 414) (by decide +kernel)))
  · exact va_Nw.of rfl (hts _ (List.mem_of_getElem? (i := 433) (by decide +kernel)))
  · exact va_Nw.of rfl (hts _ (List.mem_of_getElem? (i := 455) (by decide +kernel)))
  · exact va_Nw.of rfl (hts _ (List.mem_of_getElem? (i := 468) (by decide +kernel)))
  · exact va_Nw.of rfl (hts _ (List.mem_of_getElem? (i := 150) (by decide +kernel)))
  · exact va_Nw.of rfl (hts _ (List.mem_of_getElem? (i := 177) (by decide +kernel)))
  · exact va_Nw.of rfl (hts _ (List.mem_of_getElem? (i := 294) (by decide +kernel)))
/-- the three String constants, in the order of the places 2000 on -/
def lz_t : Nat → Term := fun i => match i with
  | 0 => .string RX7 150
  | 1 => .string RX7 162
  | _ => .string RX11 81
def lz_c (i j : Nat) : Cond := Cond.eq (.elem (.field (lz_t i) "java/lang/String" "value" "[B") (.int (Int32.ofNat j))) (.int ((jx_byts.getD i []).getD j 0))
def lz_L : List Cond := flatC (Jvm.Cond.and given_1 narrow_1)
theorem lz_e0 : (lz_L.drop 148).take 147 = (List.range 147).map (lz_c 0) := by decide +kernel
theorem lz_e1 : (lz_L.drop 300).take 12 = (List.range 12).map (lz_c 1) := by decide +kernel
theorem lz_e2 : (lz_L.drop 65).take 79 = (List.range 79).map (lz_c 2) := by decide +kernel
theorem lz_el {n d i : Nat} (e : (lz_L.drop d).take n = (List.range n).map (lz_c i)) {j : Nat} (hj : j < n) : lz_c i j ∈ lz_L := by
  have a : lz_c i j ∈ (List.range n).map (lz_c i) := List.mem_map.mpr ⟨j, List.mem_range.mpr hj, rfl⟩
  rw [← e] at a
  exact List.mem_of_mem_drop (List.mem_of_mem_take a)
theorem lz_S {args : Array Value} {s : State} (hgv : (Jvm.Cond.and given_1 narrow_1).before args s = true) {A : Nat → Prop} (hA : ∀ a : Nat, a < s.heap.size → ¬ A a) : ∃ adK adV : Nat → Nat, vk_S 3 jx_lens jx_byts adK adV A s s.heap ∧ ∀ i : Nat, i < 3 → (lz_t i).eval args s none [] s = some (.ref (adK i)) := by
  have fl : ∀ c ∈ lz_L, c.before args s = true := flat_of_before _ hgv
  have m3 : ∀ {P : Nat → Prop}, P 0 → P 1 → P 2 → ∀ i : Nat, i < 3 → P i := fun p0 p1 p2 i hi => by
    match i, hi with
    | 0, _ => exact p0
    | 1, _ => exact p1
    | 2, _ => exact p2
    | k + 3, h => exact absurd h (by omega)
  refine vk_Sof (m3 (by decide) (by decide) (by decide)) (m3 (fl _ (List.mem_of_getElem? (i := 144) (by decide +kernel))) (fl _ (List.mem_of_getElem? (i := 296) (by decide +kernel))) (fl _ (List.mem_of_getElem? (i := 61) (by decide +kernel)))) (m3 (fl _ (List.mem_of_getElem? (i := 145) (by decide +kernel))) (fl _ (List.mem_of_getElem? (i := 297) (by decide +kernel))) (fl _ (List.mem_of_getElem? (i := 62) (by decide +kernel)))) (m3 (fl _ (List.mem_of_getElem? (i := 146) (by decide +kernel))) (fl _ (List.mem_of_getElem? (i := 298) (by decide +kernel))) (fl _ (List.mem_of_getElem? (i := 63) (by decide +kernel)))) (m3 (fl _ (List.mem_of_getElem? (i := 147) (by decide +kernel))) (fl _ (List.mem_of_getElem? (i := 299) (by decide +kernel))) (fl _ (List.mem_of_getElem? (i := 64) (by decide +kernel)))) (m3 (fun j hj => fl _ (lz_el lz_e0 hj)) (fun j hj => fl _ (lz_el lz_e1 hj)) (fun j hj => fl _ (lz_el lz_e2 hj))) ?_ hA
  intro i j hi hj hne
  have n12 := fl (Cond.not (Cond.eq (lz_t 2) (lz_t 0))) (List.mem_of_getElem? (i := 295) (by decide +kernel))
  have n13 := fl (Cond.not (Cond.eq (lz_t 2) (lz_t 1))) (List.mem_of_getElem? (i := 312) (by decide +kernel))
  have n23 := fl (Cond.not (Cond.eq (lz_t 0) (lz_t 1))) (List.mem_of_getElem? (i := 313) (by decide +kernel))
  match i, j, hi, hj, hne with
  | 0, 0, _, _, h => exact absurd rfl h
  | 1, 1, _, _, h => exact absurd rfl h
  | 2, 2, _, _, h => exact absurd rfl h
  | 0, 1, _, _, _ => exact Or.inl n23
  | 1, 0, _, _, _ => exact Or.inr n23
  | 0, 2, _, _, _ => exact Or.inr n12
  | 2, 0, _, _, _ => exact Or.inl n12
  | 1, 2, _, _, _ => exact Or.inr n13
  | 2, 1, _, _, _ => exact Or.inl n13
  | k + 3, _, h, _, _ => exact absurd h (by omega)
  | _, k + 3, _, h, _ => exact absurd h (by omega)
/-- everything that the world of a constructor wants of the start -/
theorem lz_E {b : Nat} {s : State} (hts : ∀ w ∈ lw_tbl, w.before #[Value.ref b] s = true) (hgv : (Jvm.Cond.and given_1 narrow_1).before #[Value.ref b] s = true) : ∃ αs : Int → Nat, jb_E αs (fun q => s.heap.size ≤ q) s s.heap := by
  have hA : ∀ a : Nat, a < s.heap.size → ¬ (fun q => s.heap.size ≤ q) a := fun a ha => Nat.not_le.mpr ha
  have fl : ∀ c ∈ lz_L, c.before #[Value.ref b] s = true := flat_of_before _ hgv
  obtain ⟨adK, adV, hS, hev⟩ := lz_S hgv hA
  have hcs : (Term.static "java/lang/String" "COMPACT_STRINGS" "Z").eval #[Value.ref b] s none [] s = some (.int 1) := va_eqi (fl _ (List.mem_of_getElem? (i := 4) (by decide +kernel)))
  have hsf : (Cond.isRef (Term.static "jdk/internal/util/Preconditions" "SIOOBE_FORMATTER" "Ljava/util/function/BiFunction;")).before #[Value.ref b] s = true := fl _ (List.mem_of_getElem? (i := 5) (by decide +kernel))
  obtain ⟨z, t, hz, hv⟩ : ∃ (z : Int) (t : Nat), (z = -1 ∨ z = 3000) ∧ (Term.static "jdk/internal/util/Preconditions" "SIOOBE_FORMATTER" "Ljava/util/function/BiFunction;").eval #[Value.ref b] s none [] s = some (va_rf (if z < 0 then none else some t)) := by
    cases hv : (Term.static "jdk/internal/util/Preconditions" "SIOOBE_FORMATTER" "Ljava/util/function/BiFunction;").eval #[Value.ref b] s none [] s with
    | none => simp [Cond.before, Cond.holds, Cond.value, hv] at hsf
    | some w =>
      cases w with
      | null => exact ⟨-1, 0, Or.inl rfl, rfl⟩
      | ref t => exact ⟨3000, t, Or.inr rfl, rfl⟩
      | _ => simp [Cond.before, Cond.holds, Cond.value, Value.isRef, hv] at hsf
  refine ⟨fun k => if 3000 ≤ k then t else if 2010 ≤ k then adV (k - 2010).toNat else adK (k - 2000).toNat, lz_AO hts, lz_nests hts, ?_, ?_, va_Zof (hts _ (List.mem_of_getElem? (i := 517) (by decide +kernel))) (hts _ (List.mem_of_getElem? (i := 117) (by decide +kernel))) hcs hA, z, by omega, ?_⟩
  · have eK : ∀ i : Nat, i < 3 → (if (3000 : Int) ≤ 2000 + (i : Int) then t else if (2010 : Int) ≤ 2000 + (i : Int) then adV (2000 + (i : Int) - 2010).toNat else adK (2000 + (i : Int) - 2000).toNat) = adK i := fun i hi => by
      rw [if_neg (by omega), if_neg (by omega), show (2000 + (i : Int) - 2000).toNat = i by omega]
    have eV : ∀ i : Nat, i < 3 → (if (3000 : Int) ≤ 2010 + (i : Int) then t else if (2010 : Int) ≤ 2010 + (i : Int) then adV (2010 + (i : Int) - 2010).toNat else adK (2010 + (i : Int) - 2000).toNat) = adV i := fun i hi => by
      rw [if_neg (by omega), if_pos (by omega), show (2010 + (i : Int) - 2010).toNat = i by omega]
    refine ⟨fun i hi => ?_, fun i j hi hj e => ?_⟩
    · have a := hS.1 i hi
      rw [← eK i hi, ← eV i hi] at a
      exact a
    · have e : (if (3000 : Int) ≤ 2000 + (i : Int) then t else if (2010 : Int) ≤ 2000 + (i : Int) then adV (2000 + (i : Int) - 2010).toNat else adK (2000 + (i : Int) - 2000).toNat) = (if (3000 : Int) ≤ 2000 + (j : Int) then t else if (2010 : Int) ≤ 2000 + (j : Int) then adV (2000 + (j : Int) - 2010).toNat else adK (2000 + (j : Int) - 2000).toNat) := e
      rw [eK i hi, eK j hj] at e
      exact hS.2 i j hi hj e
  · intro q hq
    unfold jx_SL at hq
    simp only [List.mem_cons, List.not_mem_nil, or_false] at hq
    rcases hq with rfl | rfl | rfl
    · exact vk_R.of (hts _ (List.mem_of_getElem? (i := 578) (by decide +kernel))) (hev 0 (by decide))
    · exact vk_R.of (hts _ (List.mem_of_getElem? (i := 597) (by decide +kernel))) (hev 1 (by decide))
    · exact vk_R.of (hts _ (List.mem_of_getElem? (i := 503) (by decide +kernel))) (hev 2 (by decide))
  · refine va_Zof (hts _ (List.mem_of_getElem? (i := 533) (by decide +kernel))) (hts _ (List.mem_of_getElem? (i := 119) (by decide +kernel))) ?_ hA
    rw [hv]
    rcases hz with rfl | rfl
    · rfl
    · rfl
