/-! the class's new heap -/
def nhC : jx_H := fun k j => match jx_kd sgC k with
  | (0, c, _) => if jx_tag (jx_ft c j.toNat) = 3 then -1 else 0
  | (1, _, _) => 0
  | (2, _, _) => 0
  | _ => -1
theorem nhC_new (k : Int) : NewRow sgC nhC k := fun j => by
  unfold rfC nhC
  generalize jx_kd sgC k = q
  obtain ⟨x, c, n⟩ := q
  match x with
  | 0 =>
    by_cases e : jx_tag (jx_ft c j) = 3
    · exact ⟨fun _ => if_pos e, fun z => absurd e z⟩
    · exact ⟨fun z => absurd z e, fun _ => if_neg e⟩
  | 1 => exact ⟨fun z => z.elim, fun _ => rfl⟩
  | 2 => exact ⟨fun z => z.elim, fun _ => rfl⟩
  | x + 3 => exact ⟨fun _ => rfl, fun z => absurd True.intro z⟩
theorem mnP_all : ∀ k ∈ jx_ids sgC, mnP k = true := List.all_eq_true.mp (by decide +kernel)
def mnC : jx_H := mnH nhC
def rfB (k : Int) (j : Nat) : Bool := match jx_kd sgC k with
  | (0, c, _) => decide (jx_tag (jx_ft c j) = 3)
  | (1, _, _) => false
  | (2, _, _) => false
  | _ => true
def nrf (k : Int) : Nat := match jx_kd sgC k with
  | (0, _, n) => n
  | (1, _, _) => 0
  | (2, _, _) => 0
  | (_, _, n) => n
theorem rfB_of {k : Int} {j : Nat} (hf : rfC sgC k j) : rfB k j = true := by
  unfold rfC at hf
  unfold rfB
  generalize jx_kd sgC k = q at hf ⊢
  obtain ⟨x, c, n⟩ := q
  match x, hf with
  | 0, hf => exact decide_eq_true hf
  | 1, hf => exact hf.elim
  | 2, hf => exact hf.elim
  | x + 3, _ => rfl
theorem nrf_of {k : Int} {j : Nat} (hf : rfC sgC k j) (hj : j < (jx_kd sgC k).2.2) : j < nrf k := by
  unfold rfC at hf
  unfold nrf
  generalize jx_kd sgC k = q at hf hj ⊢
  obtain ⟨x, c, n⟩ := q
  match x, hf with
  | 0, _ => exact hj
  | 1, hf => exact hf.elim
  | 2, hf => exact hf.elim
  | x + 3, _ => exact hj
theorem mnC_refs : ∀ k ∈ jx_ids sgC, ∀ j : Nat, j < (jx_kd sgC k).2.2 → rfC sgC k j → rsC k j = -2 ∨ rsC k j = mnC k j := fun k hk j hj hf => by
  have a : (jx_ids sgC).all (fun k => (List.range (nrf k)).all fun j => !(rfB k j) || (decide (rsC k j = -2) || decide (rsC k j = mnC k j))) = true := by decide +kernel
  have b := List.all_eq_true.mp (List.all_eq_true.mp a k hk) j (List.mem_range.mpr (nrf_of hf hj))
  rw [rfB_of hf] at b
  rcases (Bool.or_eq_true _ _).mp b with z | z
  · exact absurd z (by decide)
  · rcases (Bool.or_eq_true _ _).mp z with y | y
    · exact Or.inl (of_decide_eq_true y)
    · exact Or.inr (of_decide_eq_true y)
