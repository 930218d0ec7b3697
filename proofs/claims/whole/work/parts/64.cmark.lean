/-! the class: marked -/
/-- alike in what the RULE reads -/
def Ln (m m2 : jx_H) : Prop := (∀ x, x = 5 ∨ (800 ≤ x ∧ x < 930) → m2 10 x = m 10 x) ∧ m2 20 = m 20 ∧ m2 21 = m 21
theorem sRu_ln {m m2 : jx_H} (e : Ln m m2) (s mo kn : Int) : ∀ n : Nat, n ≤ 40 → sRu m2 s mo kn n = sRu m s mo kn n
  | 0, _ => rfl
  | n + 1, hn => by
    have ih := sRu_ln e s mo kn n (by omega)
    have hl := sRu_lt m s mo kn n
    unfold sRu
    rw [ih, e.2.1, e.1 (800 + 3 * (n : Int)) (by omega), e.1 (800 + 3 * (n : Int) + 1) (by omega), e.1 (800 + 3 * (n : Int) + 2) (by omega)]
    by_cases hr : sRu m s mo kn n < 0
    · simp only [hr, true_or]
    · rw [e.1 (800 + 3 * sRu m s mo kn n + 1) (by omega)]
theorem sRule_ln {m m2 : jx_H} (e : Ln m m2) (R : RA (m 10)) (s mo kn : Int) : sRule m2 s mo kn = sRule m s mo kn := by
  have c5 := R.c5
  have hl := sRu_lt m s mo kn (m 10 5).toNat
  unfold sRule
  rw [e.1 5 (by omega), sRu_ln e s mo kn _ (by omega)]
  by_cases hr : sRu m s mo kn (m 10 5).toNat < 0
  · rw [if_pos hr, if_pos hr]
  · rw [if_neg hr, if_neg hr, e.1 _ (by omega)]
theorem s_numberOf_ln {m m2 : jx_H} (e : Ln m m2) (t s : Int) : s_numberOf m2 t s = s_numberOf m t s := by
  unfold s_numberOf
  rw [e.2.1, e.2.2]
