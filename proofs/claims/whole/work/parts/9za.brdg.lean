/-! from the growing world to the fixed one -/
theorem arrV_cg {cI : ClassId} {N : Nat} {f g : Nat → Value} (h : ∀ j, j < N → f j = g j) : arrV cI N f = arrV cI N g := by
  unfold arrV
  rw [show (fun (j : Fin N) => f j.val) = fun (j : Fin N) => g j.val from funext fun j => h j.val j.isLt]
theorem ent_brdg {sg : List jx_Sg} {P : Int → Bool} {rs : Int → Int → Int} {h : jx_H} {D : va_G} {tA : Nat → ClassId} {α : Int → Nat} {H : Heap} {k : Int} (hp : P k = true) (hr : ∀ j : Nat, j < (jx_kd sg k).2.2 → rfC sg k j → rs k j = -2 ∨ rs k j = h k j) (hv : va_at D vwCl (α k, jx_ent tA α (wP sg P) h k) H) : va_at D vwCl (α k, jx_ent tA α (jx_ids sg, jx_kd sg, rs) h k) H := by
  have rv1 : ∀ j : Int, jx_rv (wP sg P) h k j = h k j := fun j => if_pos rfl
  have rv2 : ∀ j : Nat, j < (jx_kd sg k).2.2 → rfC sg k j → jx_rv (jx_ids sg, jx_kd sg, rs) h k (j : Int) = h k j := fun j hj hf => by
    unfold jx_rv
    show (if rs k j = -2 then h k j else rs k j) = h k j
    rcases hr j hj hf with z | z
    · rw [if_pos z]
    · by_cases e : rs k j = -2
      · rw [if_pos e]
      · rw [if_neg e, z]
  have e1 : (wP sg P).2.1 k = jx_kd sg k := wP_kd hp
  unfold jx_ent at hv ⊢
  rw [e1] at hv
  show va_at D vwCl (α k, match jx_kd sg k with
    | (0, c, n) => .inr (c, (List.range n).map fun j => jx_fvl α (jx_ids sg, jx_kd sg, rs) h k (jx_ft c j) j)
    | (1, t, n) => .inl (tA t, n, .inl fun j => Int32.ofInt (h k (j : Int)))
    | (2, t, n) => .inl (tA t, n, .inr (.inl fun j => Int64.ofInt (h k (j : Int))))
    | (_, t, n) => .inl (tA t, n, .inr (.inr (.inr (.inr fun j => jx_opt α (jx_rv (jx_ids sg, jx_kd sg, rs) h k (j : Int))))))) H
  unfold rfC at rv2
  generalize jx_kd sg k = q at hv rv2 ⊢
  obtain ⟨x, c, n⟩ := q
  match x, hv, rv2 with
  | 0, hv, rv2 =>
    have e2 : ((List.range n).map fun j => jx_fvl α (jx_ids sg, jx_kd sg, rs) h k (jx_ft c j) j) = (List.range n).map fun j => jx_fvl α (wP sg P) h k (jx_ft c j) j := List.map_congr_left fun j hj => by
      have hj := List.mem_range.mp hj
      unfold jx_fvl
      by_cases e : jx_tag (jx_ft c j) = 3
      · rw [rv1, rv2 j hj e]
      · split
        · rfl
        · rename_i e9
          exact absurd e9 e
        · rfl
    show va_at D vwCl (α k, .inr (c, (List.range n).map fun j => jx_fvl α (jx_ids sg, jx_kd sg, rs) h k (jx_ft c j) j)) H
    rw [e2]
    exact hv
  | 1, hv, _ => exact hv
  | 2, hv, _ => exact hv
  | x + 3, hv, rv2 =>
    have hv : H[α k]? = some (arrV (tA c) n fun j => va_rf (jx_opt α (jx_rv (wP sg P) h k (j : Int)))) := hv
    show H[α k]? = some (arrV (tA c) n fun j => va_rf (jx_opt α (jx_rv (jx_ids sg, jx_kd sg, rs) h k (j : Int))))
    have e2 : arrV (tA c) n (fun j => va_rf (jx_opt α (jx_rv (wP sg P) h k (j : Int)))) = arrV (tA c) n (fun j => va_rf (jx_opt α (jx_rv (jx_ids sg, jx_kd sg, rs) h k (j : Int)))) := arrV_cg fun j hj => by
      have r2 := rv2 j hj True.intro
      rw [rv1, r2]
    rw [hv, e2]
theorem wl_brdg {sg : List jx_Sg} {P : Int → Bool} {rs : Int → Int → Int} {h : jx_H} {D : va_G} {tA : Nat → ClassId} {α : Int → Nat} {H : Heap} (hall : ∀ k ∈ jx_ids sg, P k = true) (hr : ∀ k ∈ jx_ids sg, ∀ j : Nat, j < (jx_kd sg k).2.2 → rfC sg k j → rs k j = -2 ∨ rs k j = h k j) (hP : va_P D vwCl (jx_wl tA α (wP sg P) h) H) : va_P D vwCl (jx_wl tA α (jx_ids sg, jx_kd sg, rs) h) H := by
  intro i q hi
  obtain ⟨k, hk, rfl⟩ := List.mem_map.mp (List.mem_of_getElem? hi)
  have hk : k ∈ jx_ids sg := hk
  obtain ⟨i2, hi2⟩ := List.getElem?_of_mem (wP_mem.mpr ⟨hk, hall k hk⟩)
  have x := hP i2 (α k, jx_ent tA α (wP sg P) h k) (by unfold jx_wl; rw [List.getElem?_map, hi2]; rfl)
  exact ent_brdg (hall k hk) (hr k hk) x
theorem A_brdg {sg : List jx_Sg} {P : Int → Bool} {rs : Int → Int → Int} {α : Int → Nat} (hall : ∀ k ∈ jx_ids sg, P k = true) (q : Nat) : jx_A (wP sg P) α q ↔ jx_A (jx_ids sg, jx_kd sg, rs) α q := by
  constructor
  · rintro ⟨k, hk, e⟩
    exact ⟨k, (wP_mem.mp hk).1, e⟩
  · rintro ⟨k, hk, e⟩
    exact ⟨k, wP_mem.mpr ⟨hk, hall k hk⟩, e⟩
