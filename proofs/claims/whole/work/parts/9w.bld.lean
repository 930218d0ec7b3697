/-! growing worlds: what their heaps keep -/
theorem RefIn_ad {sg : List jx_Sg} {P : Int → Bool} {h : jx_H} {a : Int} (r : RefIn sg P h) (n : NewRow sg h a) : RefIn sg (ad P a) h := fun k hk j hj => by
  rcases ad_iff.mp hk with z | z
  · exact (r k z j hj).imp id fun y => ad_iff.mpr (Or.inl y)
  · subst z
    exact Or.inl (by rw [(n j).1 hj]; decide)
theorem RefIn_put {sg : List jx_Sg} {P : Int → Bool} {h : jx_H} {a k v : Int} (r : RefIn sg P h) (hv : P v = true) : RefIn sg P (hu h a k v) := fun b hb j hj => by
  unfold hu
  split
  · exact Or.inr hv
  · exact r b hb j hj
theorem RefIn_int {sg : List jx_Sg} {P : Int → Bool} {h : jx_H} {a v : Int} {k : Nat} (r : RefIn sg P h) (hk : ¬ rfC sg a k) : RefIn sg P (hu h a (k : Int) v) := fun b hb j hj => by
  unfold hu
  split
  · rename_i z
    have : j = k := by omega
    subst this
    rw [z.1] at hj
    exact absurd hj hk
  · exact r b hb j hj
theorem NewRow_put {sg : List jx_Sg} {h : jx_H} {a b k v : Int} (n : NewRow sg h b) (hb : b ≠ a) : NewRow sg (hu h a k v) b := fun j => by
  rw [hu_ne hb]
  exact n j
/-- no reference to b, as a list of small things -/
def nvL (b : Int) : List jx_V → Prop
  | [] => True
  | v :: r => (∀ z : Int, v = vr z → z ≠ b) ∧ nvL b r
theorem nvL_mem {b : Int} : ∀ {l : List jx_V}, nvL b l → ∀ v ∈ l, ∀ z : Int, v = vr z → 0 ≤ z → z ≠ b
  | [], _, v, hv, _, _, _ => by cases hv
  | x :: r, h, v, hv, z, e, h0 => by
    rcases List.mem_cons.mp hv with rfl | hv
    · exact h.1 z e
    · exact nvL_mem h.2 v hv z e h0
theorem NoV_of {b : Int} {lv : jx_L} {st : List jx_V} (h1 : nvL b (lv.map fun q => q.2)) (h2 : nvL b st) : NoV b lv st := ⟨fun q hq => nvL_mem h1 q.2 (List.mem_map.mpr ⟨q, hq, rfl⟩), nvL_mem h2⟩
theorem sgC_ok : (jx_ids sgC).Nodup ∧ jx_sgok sgC = true := ⟨by decide +kernel, by decide +kernel⟩
theorem kd9 {a : Int} (h : 900 ≤ a ∧ a ≤ 910) : jx_kd sgC a = (0, 9, 4) ∧ jx_kd sgC (a + 20) = (1, 0, 300) ∧ jx_kd sgC (a + 40) = (1, 0, 7) ∧ jx_kd sgC (a + 60) = (1, 0, 7) := by
  rcases (show a = 900 ∨ a = 901 ∨ a = 902 ∨ a = 903 ∨ a = 904 ∨ a = 905 ∨ a = 906 ∨ a = 907 ∨ a = 908 ∨ a = 909 ∨ a = 910 by omega) with rfl | rfl | rfl | rfl | rfl | rfl | rfl | rfl | rfl | rfl | rfl <;> decide +kernel
theorem nv_0 {b : Int} : nvL b [] := True.intro
theorem nv_r {b a : Int} {l : List jx_V} (h : a ≠ b) (t : nvL b l) : nvL b (vr a :: l) := ⟨fun z e => by cases e; exact h, t⟩
theorem nv_i {b x : Int} {l : List jx_V} (t : nvL b l) : nvL b (vi x :: l) := ⟨fun z e => (by cases e), t⟩
