/-! every call keeps what holds between two calls -/
theorem K_firm {m : jx_H} {B : Int} (X : RX m B) : RX (sp_firm m).2 B := by
  have R := X.b0.1
  have J := X.b0.2.2.1
  have Y := X.b0.2.2.2.2
  have c0 := R.c0
  have c1 := R.c1
  have c2 := R.c2
  have c3 := R.c3
  have c4 := R.c4
  have c5 := R.c5
  have c6 := R.c6
  unfold sp_firm
  split
  · exact X
  · rename_i hc
    show RX (hu m 10 1 (m 10 1 + 1)) B
    obtain ⟨m2, hm⟩ : ∃ z, z = hu m 10 1 (m 10 1 + 1) := ⟨_, rfl⟩
    rw [← hm]
    have er : ∀ a, a ≠ 10 → m2 a = m a := fun a ha => by rw [hm]; simp only [hu_row ha]
    have e : ∀ x, x ≠ 1 → m2 10 x = m 10 x := fun x hx => by rw [hm]; simp (disch := omega) only [hu_ni]
    have k0 := e 0 (by omega)
    have k1 : m2 10 1 = m 10 1 + 1 := by rw [hm]; simp (disch := omega) only [hu_ni, hu_eqo, hu_row, hu_ne]
    have k2 := e 2 (by omega)
    have k3 := e 3 (by omega)
    have k4 := e 4 (by omega)
    have k5 := e 5 (by omega)
    have k6 := e 6 (by omega)
    refine RX_10e X er (BI_mk X.b0 k0 (fun x x0 x1 => e x (by omega)) (by omega) (by omega) (by omega) (by omega) (by omega) (by omega) ?_ ?_ ?_ ?_ ?_ ?_ ?_ ?_ ?_) k4 ⟨by omega, by omega, by omega⟩
    · exact fr_tr (fun x x0 x1 => e x (by omega)) R.tr
    · exact fr_li (fun x x0 x1 => e x (by omega)) R.li
    · exact fr_ha (fun x x0 x1 => e x (by omega)) (by omega) c2.2 (by omega) R.ha
    · exact fr_co (fun x x0 x1 => e x (by omega)) (by omega) c3.2 R.co
    · exact fr_ru (fun x x0 x1 => e x (by omega)) (by omega) c5.2 (by omega) R.ru
    · exact fr_jo (fun x x0 x1 => e x (by omega)) (by omega) c6.2 (by omega) (by omega) (by omega) R.jo
    · exact fr_re (fun x x0 x1 => e x (by omega)) R.re
    · exact fr_rj (fun x x0 x1 => e x (by omega)) (fun x x0 x1 => e x (by omega)) (by omega) c6.2 (by omega) R.jo J
    · exact fr_jb (fun x x0 x1 => e x (by omega)) Y
theorem K_hand {m : jx_H} {x1 x2 x3 x4 B : Int} (X : RX m B) : RX (sp_hand m x1 x2 x3 x4).2 B := by
  have R := X.b0.1
  have J := X.b0.2.2.1
  have Y := X.b0.2.2.2.2
  have c0 := R.c0
  have c1 := R.c1
  have c2 := R.c2
  have c3 := R.c3
  have c4 := R.c4
  have c5 := R.c5
  have c6 := R.c6
  unfold sp_hand
  split
  · exact X
  · rename_i hc
    have hq : (14 ≤ x1 ∧ x1 ≤ 80) ∧ (0 ≤ x2 ∧ x2 ≤ 7) ∧ (0 ≤ x3 ∧ x3 ≤ 5000) ∧ (-1 ≤ x4 ∧ x4 < m 10 1) ∧ m 10 2 < 60 := by omega
    clear hc
    show RX (hu (hu (hu (hu (hu (hu m 10 (100 + 6 * m 10 2) x1) 10 (100 + 6 * m 10 2 + 1) x2) 10 (100 + 6 * m 10 2 + 2) x3) 10 (100 + 6 * m 10 2 + 3) x4) 10 (100 + 6 * m 10 2 + 4) 0) 10 2 (m 10 2 + 1)) B
    obtain ⟨m2, hm⟩ : ∃ z, z = hu (hu (hu (hu (hu (hu m 10 (100 + 6 * m 10 2) x1) 10 (100 + 6 * m 10 2 + 1) x2) 10 (100 + 6 * m 10 2 + 2) x3) 10 (100 + 6 * m 10 2 + 3) x4) 10 (100 + 6 * m 10 2 + 4) 0) 10 2 (m 10 2 + 1) := ⟨_, rfl⟩
    rw [← hm]
    have er : ∀ a, a ≠ 10 → m2 a = m a := fun a ha => by rw [hm]; simp only [hu_row ha]
    have e : ∀ x, (x ≠ 2 ∧ ¬ (100 + 6 * m 10 2 ≤ x ∧ x ≤ 100 + 6 * m 10 2 + 4)) → m2 10 x = m 10 x := fun x hx => by rw [hm]; simp (disch := omega) only [hu_ni]
    have k0 := e 0 (by omega)
    have k1 := e 1 (by omega)
    have k2 : m2 10 2 = m 10 2 + 1 := by rw [hm]; simp (disch := omega) only [hu_ni, hu_eqo, hu_row, hu_ne]
    have k3 := e 3 (by omega)
    have k4 := e 4 (by omega)
    have k5 := e 5 (by omega)
    have k6 := e 6 (by omega)
    refine RX_10e X er (BI_mk X.b0 k0 (fun x x0 x1 => e x (by omega)) (by omega) (by omega) (by omega) (by omega) (by omega) (by omega) ?_ ?_ ?_ ?_ ?_ ?_ ?_ ?_ ?_) k4 ⟨by omega, by omega, by omega⟩
    · exact fr_tr (fun x x0 x1 => e x (by omega)) R.tr
    · exact fr_li (fun x x0 x1 => e x (by omega)) R.li
    · intro i i0 i1
      by_cases hi : i = m 10 2
      · subst hi
        rw [hm]
        simp (disch := omega) only [hu_ni, hu_eqo, hu_row, hu_ne]
        omega
      · have z := R.ha i i0 (by omega)
        rw [k1, e (100 + 6 * i) (by omega), e (100 + 6 * i + 1) (by omega), e (100 + 6 * i + 2) (by omega), e (100 + 6 * i + 3) (by omega)]
        exact z
    · exact fr_co (fun x x0 x1 => e x (by omega)) (by omega) c3.2 R.co
    · exact fr_ru (fun x x0 x1 => e x (by omega)) (by omega) c5.2 (by omega) R.ru
    · exact fr_jo (fun x x0 x1 => e x (by omega)) (by omega) c6.2 (by omega) (by omega) (by omega) R.jo
    · exact fr_re (fun x x0 x1 => e x (by omega)) R.re
    · exact fr_rj (fun x x0 x1 => e x (by omega)) (fun x x0 x1 => e x (by omega)) (by omega) c6.2 (by omega) R.jo J
    · exact fr_jb (fun x x0 x1 => e x (by omega)) Y
theorem K_trade {m : jx_H} {x1 x2 x3 x4 B : Int} (X : RX m B) : RX (sp_trade m x1 x2 x3 x4).2 B := by
  have R := X.b0.1
  have J := X.b0.2.2.1
  have Y := X.b0.2.2.2.2
  have c0 := R.c0
  have c1 := R.c1
  have c2 := R.c2
  have c3 := R.c3
  have c4 := R.c4
  have c5 := R.c5
  have c6 := R.c6
  unfold sp_trade
  split
  · exact X
  · rename_i hc
    have hq : (0 ≤ x1 ∧ x1 ≤ 7) ∧ (0 ≤ x2 ∧ x2 ≤ 50) ∧ (1 ≤ x3 ∧ x3 ≤ 200) ∧ 0 ≤ x4 ∧ x4 ≤ 100 := by omega
    clear hc
    show RX (hu (hu (hu m 10 (50 + 3 * x1) x2) 10 (50 + 3 * x1 + 1) x3) 10 (50 + 3 * x1 + 2) x4) B
    obtain ⟨m2, hm⟩ : ∃ z, z = hu (hu (hu m 10 (50 + 3 * x1) x2) 10 (50 + 3 * x1 + 1) x3) 10 (50 + 3 * x1 + 2) x4 := ⟨_, rfl⟩
    rw [← hm]
    have er : ∀ a, a ≠ 10 → m2 a = m a := fun a ha => by rw [hm]; simp only [hu_row ha]
    have e : ∀ x, ¬ (50 + 3 * x1 ≤ x ∧ x ≤ 50 + 3 * x1 + 2) → m2 10 x = m 10 x := fun x hx => by rw [hm]; simp (disch := omega) only [hu_ni]
    have k0 := e 0 (by omega)
    have k1 := e 1 (by omega)
    have k2 := e 2 (by omega)
    have k3 := e 3 (by omega)
    have k4 := e 4 (by omega)
    have k5 := e 5 (by omega)
    have k6 := e 6 (by omega)
    refine RX_10e X er (BI_mk X.b0 k0 (fun x x0 x1 => e x (by omega)) (by omega) (by omega) (by omega) (by omega) (by omega) (by omega) ?_ ?_ ?_ ?_ ?_ ?_ ?_ ?_ ?_) k4 ⟨by omega, by omega, by omega⟩
    · intro t t0 t1
      by_cases hi : t = x1
      · subst hi
        rw [hm]
        simp (disch := omega) only [hu_ni, hu_eqo, hu_row, hu_ne]
        omega
      · have z := R.tr t t0 t1
        rw [e (50 + 3 * t) (by omega), e (50 + 3 * t + 1) (by omega), e (50 + 3 * t + 2) (by omega)]
        exact z
    · exact fr_li (fun x x0 x1 => e x (by omega)) R.li
    · exact fr_ha (fun x x0 x1 => e x (by omega)) (by omega) c2.2 (by omega) R.ha
    · exact fr_co (fun x x0 x1 => e x (by omega)) (by omega) c3.2 R.co
    · exact fr_ru (fun x x0 x1 => e x (by omega)) (by omega) c5.2 (by omega) R.ru
    · exact fr_jo (fun x x0 x1 => e x (by omega)) (by omega) c6.2 (by omega) (by omega) (by omega) R.jo
    · exact fr_re (fun x x0 x1 => e x (by omega)) R.re
    · exact fr_rj (fun x x0 x1 => e x (by omega)) (fun x x0 x1 => e x (by omega)) (by omega) c6.2 (by omega) R.jo J
    · exact fr_jb (fun x x0 x1 => e x (by omega)) Y
theorem K_paper {m : jx_H} {x1 x2 B : Int} (X : RX m B) : RX (sp_paper m x1 x2).2 B := by
  have R := X.b0.1
  have J := X.b0.2.2.1
  have Y := X.b0.2.2.2.2
  have c0 := R.c0
  have c1 := R.c1
  have c2 := R.c2
  have c3 := R.c3
  have c4 := R.c4
  have c5 := R.c5
  have c6 := R.c6
  unfold sp_paper
  split
  · exact X
  · rename_i hc
    have hq : (0 ≤ x1 ∧ x1 ≤ 7) ∧ (0 ≤ x2 ∧ x2 ≤ 120) := by omega
    clear hc
    show RX (hu m 10 (80 + x1) x2) B
    obtain ⟨m2, hm⟩ : ∃ z, z = hu m 10 (80 + x1) x2 := ⟨_, rfl⟩
    rw [← hm]
    have er : ∀ a, a ≠ 10 → m2 a = m a := fun a ha => by rw [hm]; simp only [hu_row ha]
    have e : ∀ x, x ≠ 80 + x1 → m2 10 x = m 10 x := fun x hx => by rw [hm]; simp (disch := omega) only [hu_ni]
    have k0 := e 0 (by omega)
    have k1 := e 1 (by omega)
    have k2 := e 2 (by omega)
    have k3 := e 3 (by omega)
    have k4 := e 4 (by omega)
    have k5 := e 5 (by omega)
    have k6 := e 6 (by omega)
    refine RX_10e X er (BI_mk X.b0 k0 (fun x x0 x1 => e x (by omega)) (by omega) (by omega) (by omega) (by omega) (by omega) (by omega) ?_ ?_ ?_ ?_ ?_ ?_ ?_ ?_ ?_) k4 ⟨by omega, by omega, by omega⟩
    · exact fr_tr (fun x x0 x1 => e x (by omega)) R.tr
    · intro t t0 t1
      by_cases hi : t = x1
      · subst hi
        rw [hm]
        simp (disch := omega) only [hu_ni, hu_eqo, hu_row, hu_ne]
        omega
      · have z := R.li t t0 t1
        rw [e (80 + t) (by omega)]
        exact z
    · exact fr_ha (fun x x0 x1 => e x (by omega)) (by omega) c2.2 (by omega) R.ha
    · exact fr_co (fun x x0 x1 => e x (by omega)) (by omega) c3.2 R.co
    · exact fr_ru (fun x x0 x1 => e x (by omega)) (by omega) c5.2 (by omega) R.ru
    · exact fr_jo (fun x x0 x1 => e x (by omega)) (by omega) c6.2 (by omega) (by omega) (by omega) R.jo
    · exact fr_re (fun x x0 x1 => e x (by omega)) R.re
    · exact fr_rj (fun x x0 x1 => e x (by omega)) (fun x x0 x1 => e x (by omega)) (by omega) c6.2 (by omega) R.jo J
    · exact fr_jb (fun x x0 x1 => e x (by omega)) Y
theorem K_course {m : jx_H} {x1 x2 x3 x4 x5 x6 x7 x8 x9 B : Int} (X : RX m B) : RX (sp_course m x1 x2 x3 x4 x5 x6 x7 x8 x9).2 B := by
  have R := X.b0.1
  have J := X.b0.2.2.1
  have Y := X.b0.2.2.2.2
  have c0 := R.c0
  have c1 := R.c1
  have c2 := R.c2
  have c3 := R.c3
  have c4 := R.c4
  have c5 := R.c5
  have c6 := R.c6
  unfold sp_course
  split
  · exact X
  · rename_i hc
    have hq : (0 ≤ x1 ∧ x1 ≤ 7) ∧ (0 ≤ x2 ∧ x2 ≤ 7) ∧ (1 ≤ x3 ∧ x3 ≤ 200) ∧ (1 ≤ x4 ∧ x4 ≤ 20) ∧ (0 ≤ x5 ∧ x5 ≤ 5000) ∧ (0 ≤ x6 ∧ x6 ≤ x7) ∧ x7 ≤ 599 ∧ (0 ≤ x8 ∧ x8 ≤ 7) ∧ (0 ≤ x9 ∧ x9 ≤ 255) ∧ m 10 3 < 24 := by omega
    clear hc
    show RX (hu (hu (hu (hu (hu (hu (hu (hu (hu (hu m 10 (500 + 9 * m 10 3) x1) 10 (500 + 9 * m 10 3 + 1) x2) 10 (500 + 9 * m 10 3 + 2) x3) 10 (500 + 9 * m 10 3 + 3) x4) 10 (500 + 9 * m 10 3 + 4) x5) 10 (500 + 9 * m 10 3 + 5) x6) 10 (500 + 9 * m 10 3 + 6) x7) 10 (500 + 9 * m 10 3 + 7) x8) 10 (500 + 9 * m 10 3 + 8) x9) 10 3 (m 10 3 + 1)) B
    obtain ⟨m2, hm⟩ : ∃ z, z = hu (hu (hu (hu (hu (hu (hu (hu (hu (hu m 10 (500 + 9 * m 10 3) x1) 10 (500 + 9 * m 10 3 + 1) x2) 10 (500 + 9 * m 10 3 + 2) x3) 10 (500 + 9 * m 10 3 + 3) x4) 10 (500 + 9 * m 10 3 + 4) x5) 10 (500 + 9 * m 10 3 + 5) x6) 10 (500 + 9 * m 10 3 + 6) x7) 10 (500 + 9 * m 10 3 + 7) x8) 10 (500 + 9 * m 10 3 + 8) x9) 10 3 (m 10 3 + 1) := ⟨_, rfl⟩
    rw [← hm]
    have er : ∀ a, a ≠ 10 → m2 a = m a := fun a ha => by rw [hm]; simp only [hu_row ha]
    have e : ∀ x, (x ≠ 3 ∧ ¬ (500 + 9 * m 10 3 ≤ x ∧ x ≤ 500 + 9 * m 10 3 + 8)) → m2 10 x = m 10 x := fun x hx => by rw [hm]; simp (disch := omega) only [hu_ni]
    have k0 := e 0 (by omega)
    have k1 := e 1 (by omega)
    have k2 := e 2 (by omega)
    have k3 : m2 10 3 = m 10 3 + 1 := by rw [hm]; simp (disch := omega) only [hu_ni, hu_eqo, hu_row, hu_ne]
    have k4 := e 4 (by omega)
    have k5 := e 5 (by omega)
    have k6 := e 6 (by omega)
    refine RX_10e X er (BI_mk X.b0 k0 (fun x x0 x1 => e x (by omega)) (by omega) (by omega) (by omega) (by omega) (by omega) (by omega) ?_ ?_ ?_ ?_ ?_ ?_ ?_ ?_ ?_) k4 ⟨by omega, by omega, by omega⟩
    · exact fr_tr (fun x x0 x1 => e x (by omega)) R.tr
    · exact fr_li (fun x x0 x1 => e x (by omega)) R.li
    · exact fr_ha (fun x x0 x1 => e x (by omega)) (by omega) c2.2 (by omega) R.ha
    · intro t t0 t1
      by_cases hi : t = m 10 3
      · subst hi
        rw [hm]
        simp (disch := omega) only [hu_ni, hu_eqo, hu_row, hu_ne]
        omega
      · have z := R.co t t0 (by omega)
        rw [e (500 + 9 * t) (by omega), e (500 + 9 * t + 1) (by omega), e (500 + 9 * t + 2) (by omega), e (500 + 9 * t + 3) (by omega), e (500 + 9 * t + 4) (by omega), e (500 + 9 * t + 5) (by omega), e (500 + 9 * t + 6) (by omega), e (500 + 9 * t + 7) (by omega), e (500 + 9 * t + 8) (by omega)]
        exact z
    · exact fr_ru (fun x x0 x1 => e x (by omega)) (by omega) c5.2 (by omega) R.ru
    · exact fr_jo (fun x x0 x1 => e x (by omega)) (by omega) c6.2 (by omega) (by omega) (by omega) R.jo
    · exact fr_re (fun x x0 x1 => e x (by omega)) R.re
    · exact fr_rj (fun x x0 x1 => e x (by omega)) (fun x x0 x1 => e x (by omega)) (by omega) c6.2 (by omega) R.jo J
    · exact fr_jb (fun x x0 x1 => e x (by omega)) Y
theorem K_wage {m : jx_H} {x1 x2 B : Int} (X : RX m B) : RX (sp_wage m x1 x2).2 B := by
  have R := X.b0.1
  have J := X.b0.2.2.1
  have Y := X.b0.2.2.2.2
  have c0 := R.c0
  have c1 := R.c1
  have c2 := R.c2
  have c3 := R.c3
  have c4 := R.c4
  have c5 := R.c5
  have c6 := R.c6
  unfold sp_wage
  split
  · exact X
  · rename_i hc
    have hq : (0 ≤ x1 ∧ x1 < m 10 2) ∧ (0 ≤ x2 ∧ x2 ≤ 5000) := by omega
    clear hc
    show RX (hu m 10 (100 + 6 * x1 + 2) x2) B
    obtain ⟨m2, hm⟩ : ∃ z, z = hu m 10 (100 + 6 * x1 + 2) x2 := ⟨_, rfl⟩
    rw [← hm]
    have er : ∀ a, a ≠ 10 → m2 a = m a := fun a ha => by rw [hm]; simp only [hu_row ha]
    have e : ∀ x, x ≠ 100 + 6 * x1 + 2 → m2 10 x = m 10 x := fun x hx => by rw [hm]; simp (disch := omega) only [hu_ni]
    have k0 := e 0 (by omega)
    have k1 := e 1 (by omega)
    have k2 := e 2 (by omega)
    have k3 := e 3 (by omega)
    have k4 := e 4 (by omega)
    have k5 := e 5 (by omega)
    have k6 := e 6 (by omega)
    refine RX_10e X er (BI_mk X.b0 k0 (fun x x0 x1 => e x (by omega)) (by omega) (by omega) (by omega) (by omega) (by omega) (by omega) ?_ ?_ ?_ ?_ ?_ ?_ ?_ ?_ ?_) k4 ⟨by omega, by omega, by omega⟩
    · exact fr_tr (fun x x0 x1 => e x (by omega)) R.tr
    · exact fr_li (fun x x0 x1 => e x (by omega)) R.li
    · intro t t0 t1
      have z := R.ha t t0 (by omega)
      rw [k1, e (100 + 6 * t) (by omega), e (100 + 6 * t + 1) (by omega), e (100 + 6 * t + 3) (by omega)]
      by_cases hi : t = x1
      · subst hi
        rw [hm]
        simp (disch := omega) only [hu_ni, hu_eqo, hu_row, hu_ne]
        omega
      · rw [e (100 + 6 * t + 2) (by omega)]
        exact z
    · exact fr_co (fun x x0 x1 => e x (by omega)) (by omega) c3.2 R.co
    · exact fr_ru (fun x x0 x1 => e x (by omega)) (by omega) c5.2 (by omega) R.ru
    · exact fr_jo (fun x x0 x1 => e x (by omega)) (by omega) c6.2 (by omega) (by omega) (by omega) R.jo
    · exact fr_re (fun x x0 x1 => e x (by omega)) R.re
    · exact fr_rj (fun x x0 x1 => e x (by omega)) (fun x x0 x1 => e x (by omega)) (by omega) c6.2 (by omega) R.jo J
    · exact fr_jb (fun x x0 x1 => e x (by omega)) Y
theorem K_ruling {m : jx_H} {x1 x2 B : Int} (X : RX m B) : RX (sp_ruling m x1 x2).2 B := by
  have R := X.b0.1
  have J := X.b0.2.2.1
  have Y := X.b0.2.2.2.2
  have c0 := R.c0
  have c1 := R.c1
  have c2 := R.c2
  have c3 := R.c3
  have c4 := R.c4
  have c5 := R.c5
  have c6 := R.c6
  unfold sp_ruling
  split
  · exact X
  · rename_i hc
    have hq : (0 ≤ x1 ∧ x1 < m 10 4) ∧ (0 ≤ x2 ∧ x2 ≤ 599) ∧ m 10 5 < 40 := by omega
    clear hc
    show RX (hu (hu (hu (hu m 10 (800 + 3 * m 10 5) x1) 10 (800 + 3 * m 10 5 + 1) x2) 10 (800 + 3 * m 10 5 + 2) (m 10 0)) 10 5 (m 10 5 + 1)) B
    obtain ⟨m2, hm⟩ : ∃ z, z = hu (hu (hu (hu m 10 (800 + 3 * m 10 5) x1) 10 (800 + 3 * m 10 5 + 1) x2) 10 (800 + 3 * m 10 5 + 2) (m 10 0)) 10 5 (m 10 5 + 1) := ⟨_, rfl⟩
    rw [← hm]
    have er : ∀ a, a ≠ 10 → m2 a = m a := fun a ha => by rw [hm]; simp only [hu_row ha]
    have e : ∀ x, (x ≠ 5 ∧ ¬ (800 + 3 * m 10 5 ≤ x ∧ x ≤ 800 + 3 * m 10 5 + 2)) → m2 10 x = m 10 x := fun x hx => by rw [hm]; simp (disch := omega) only [hu_ni]
    have k0 := e 0 (by omega)
    have k1 := e 1 (by omega)
    have k2 := e 2 (by omega)
    have k3 := e 3 (by omega)
    have k4 := e 4 (by omega)
    have k5 : m2 10 5 = m 10 5 + 1 := by rw [hm]; simp (disch := omega) only [hu_ni, hu_eqo, hu_row, hu_ne]
    have k6 := e 6 (by omega)
    refine RX_10e X er (BI_mk X.b0 k0 (fun x x0 x1 => e x (by omega)) (by omega) (by omega) (by omega) (by omega) (by omega) (by omega) ?_ ?_ ?_ ?_ ?_ ?_ ?_ ?_ ?_) k4 ⟨by omega, by omega, by omega⟩
    · exact fr_tr (fun x x0 x1 => e x (by omega)) R.tr
    · exact fr_li (fun x x0 x1 => e x (by omega)) R.li
    · exact fr_ha (fun x x0 x1 => e x (by omega)) (by omega) c2.2 (by omega) R.ha
    · exact fr_co (fun x x0 x1 => e x (by omega)) (by omega) c3.2 R.co
    · intro t t0 t1
      rw [k4]
      by_cases hi : t = m 10 5
      · subst hi
        rw [hm]
        simp (disch := omega) only [hu_ni, hu_eqo, hu_row, hu_ne]
        omega
      · have z := R.ru t t0 (by omega)
        rw [e (800 + 3 * t) (by omega), e (800 + 3 * t + 1) (by omega), e (800 + 3 * t + 2) (by omega)]
        exact z
    · exact fr_jo (fun x x0 x1 => e x (by omega)) (by omega) c6.2 (by omega) (by omega) (by omega) R.jo
    · exact fr_re (fun x x0 x1 => e x (by omega)) R.re
    · exact fr_rj (fun x x0 x1 => e x (by omega)) (fun x x0 x1 => e x (by omega)) (by omega) c6.2 (by omega) R.jo J
    · exact fr_jb (fun x x0 x1 => e x (by omega)) Y
theorem K_result {m : jx_H} {f v B : Int} (X : RX m B) : RX (sp_result m f v).2 B := by
  have R := X.b0.1
  have J := X.b0.2.2.1
  have Y := X.b0.2.2.2.2
  have c0 := R.c0
  have c1 := R.c1
  have c2 := R.c2
  have c3 := R.c3
  have c4 := R.c4
  have c5 := R.c5
  have c6 := R.c6
  unfold sp_result
  split
  · rename_i hc
    have hq : (0 ≤ f ∧ f < 20) ∧ (-1000 ≤ v ∧ v ≤ 1000) := by omega
    clear hc
    show RX (hu m 10 (2300 + f) v) B
    obtain ⟨m2, hm⟩ : ∃ z, z = hu m 10 (2300 + f) v := ⟨_, rfl⟩
    rw [← hm]
    have er : ∀ a, a ≠ 10 → m2 a = m a := fun a ha => by rw [hm]; simp only [hu_row ha]
    have e : ∀ x, x ≠ 2300 + f → m2 10 x = m 10 x := fun x hx => by rw [hm]; simp (disch := omega) only [hu_ni]
    have k0 := e 0 (by omega)
    have k1 := e 1 (by omega)
    have k2 := e 2 (by omega)
    have k3 := e 3 (by omega)
    have k4 := e 4 (by omega)
    have k5 := e 5 (by omega)
    have k6 := e 6 (by omega)
    refine RX_10e X er (BI_mk X.b0 k0 (fun x x0 x1 => e x (by omega)) (by omega) (by omega) (by omega) (by omega) (by omega) (by omega) ?_ ?_ ?_ ?_ ?_ ?_ ?_ ?_ ?_) k4 ⟨by omega, by omega, by omega⟩
    · exact fr_tr (fun x x0 x1 => e x (by omega)) R.tr
    · exact fr_li (fun x x0 x1 => e x (by omega)) R.li
    · exact fr_ha (fun x x0 x1 => e x (by omega)) (by omega) c2.2 (by omega) R.ha
    · exact fr_co (fun x x0 x1 => e x (by omega)) (by omega) c3.2 R.co
    · exact fr_ru (fun x x0 x1 => e x (by omega)) (by omega) c5.2 (by omega) R.ru
    · exact fr_jo (fun x x0 x1 => e x (by omega)) (by omega) c6.2 (by omega) (by omega) (by omega) R.jo
    · intro t t0 t1
      by_cases hi : t = f
      · subst hi
        rw [hm]
        simp (disch := omega) only [hu_ni, hu_eqo, hu_row, hu_ne]
        omega
      · have z := R.re t t0 t1
        rw [e (2300 + t) (by omega)]
        exact z
    · exact fr_rj (fun x x0 x1 => e x (by omega)) (fun x x0 x1 => e x (by omega)) (by omega) c6.2 (by omega) R.jo J
    · exact fr_jb (fun x x0 x1 => e x (by omega)) Y
  · exact X
theorem K_giveUp {m : jx_H} {j B : Int} (X : RX m B) : RX (sp_giveUp m j).2 B := by
  have R := X.b0.1
  have J := X.b0.2.2.1
  have Y := X.b0.2.2.2.2
  have c0 := R.c0
  have c1 := R.c1
  have c2 := R.c2
  have c3 := R.c3
  have c4 := R.c4
  have c5 := R.c5
  have c6 := R.c6
  unfold sp_giveUp
  split
  · exact X
  · rename_i hc
    split
    · exact X
    · rename_i hd
      have hj : 0 ≤ j ∧ j < m 10 6 := by omega
      have rj := R.jo j hj.1 hj.2
      have qj := J j hj.1 hj.2
      have rc := R.co (m 10 (1000 + 10 * j + 1)) rj.2.1.1 rj.2.1.2
      show RX (hu m 10 (1000 + 10 * j + 6) 1) B
      obtain ⟨m2, hm⟩ : ∃ z, z = hu m 10 (1000 + 10 * j + 6) 1 := ⟨_, rfl⟩
      rw [← hm]
      have er : ∀ a, a ≠ 10 → m2 a = m a := fun a ha => by rw [hm]; simp only [hu_row ha]
      have e : ∀ x, x ≠ 1000 + 10 * j + 6 → m2 10 x = m 10 x := fun x hx => by rw [hm]; simp (disch := omega) only [hu_ni]
      have k0 := e 0 (by omega)
      have k1 := e 1 (by omega)
      have k2 := e 2 (by omega)
      have k3 := e 3 (by omega)
      have k4 := e 4 (by omega)
      have k5 := e 5 (by omega)
      have k6 := e 6 (by omega)
      refine RX_10e X er (BI_mk X.b0 k0 (fun x x0 x1 => e x (by omega)) (by omega) (by omega) (by omega) (by omega) (by omega) (by omega) ?_ ?_ ?_ ?_ ?_ ?_ ?_ ?_ ?_) k4 ⟨by omega, by omega, by omega⟩
      · exact fr_tr (fun x x0 x1 => e x (by omega)) R.tr
      · exact fr_li (fun x x0 x1 => e x (by omega)) R.li
      · exact fr_ha (fun x x0 x1 => e x (by omega)) (by omega) c2.2 (by omega) R.ha
      · exact fr_co (fun x x0 x1 => e x (by omega)) (by omega) c3.2 R.co
      · exact fr_ru (fun x x0 x1 => e x (by omega)) (by omega) c5.2 (by omega) R.ru
      · intro t t0 t1
        have z := R.jo t t0 (by omega)
        rw [k1, k2, k3, e (1000 + 10 * t) (by omega), e (1000 + 10 * t + 1) (by omega), e (1000 + 10 * t + 2) (by omega), e (1000 + 10 * t + 3) (by omega), e (1000 + 10 * t + 4) (by omega), e (1000 + 10 * t + 5) (by omega), e (1000 + 10 * t + 7) (by omega), e (1000 + 10 * t + 8) (by omega)]
        by_cases hi : t = j
        · subst hi
          rw [hm]
          simp (disch := omega) only [hu_ni, hu_eqo, hu_row, hu_ne]
          omega
        · rw [e (1000 + 10 * t + 6) (by omega)]
          exact z
      · exact fr_re (fun x x0 x1 => e x (by omega)) R.re
      · intro t t0 t1
        have z := J t t0 (by omega)
        have r := R.jo t t0 (by omega)
        rw [k0, e (1000 + 10 * t + 5) (by omega), e (1000 + 10 * t + 3) (by omega), e (1000 + 10 * t + 1) (by omega), e (500 + 9 * m 10 (1000 + 10 * t + 1) + 6) (by omega)]
        by_cases hi : t = j
        · subst hi
          exact ⟨z.1, fun y => by have := z.2 y; omega⟩
        · rw [e (1000 + 10 * t + 6) (by omega)]
          exact z
      · intro t t0 t1
        have z := Y t t0 t1
        rw [e (1000 + 10 * t + 4) (by omega), e (1000 + 10 * t + 8) (by omega)]
        by_cases hi : t = j
        · subst hi
          rw [hm]
          simp (disch := omega) only [hu_ni, hu_eqo, hu_row, hu_ne]
          omega
        · rw [e (1000 + 10 * t + 6) (by omega)]
          exact z
theorem K_marked {m : jx_H} {j v B : Int} (X : RX m B) : RX (sp_marked m j v).2 B := by
  have R := X.b0.1
  have J := X.b0.2.2.1
  have Y := X.b0.2.2.2.2
  have c0 := R.c0
  have c1 := R.c1
  have c2 := R.c2
  have c3 := R.c3
  have c4 := R.c4
  have c5 := R.c5
  have c6 := R.c6
  unfold sp_marked
  split
  · exact X
  · rename_i hc
    split
    · exact X
    · rename_i hd
      have hj : (0 ≤ j ∧ j < m 10 6) ∧ 0 ≤ v ∧ v ≤ 100 := by omega
      have rj := R.jo j hj.1.1 hj.1.2
      have qj := J j hj.1.1 hj.1.2
      have hu1 : 0 ≤ (if s_numberOf m (sRule m 6 (m 10 (500 + 9 * m 10 (1000 + 10 * j + 1) + 6)) (m 10 0)) 6 ≤ v then (1 : Int) else 0) ∧ (if s_numberOf m (sRule m 6 (m 10 (500 + 9 * m 10 (1000 + 10 * j + 1) + 6)) (m 10 0)) 6 ≤ v then (1 : Int) else 0) ≤ 1 := by split <;> omega
      dsimp only
      generalize (if s_numberOf m (sRule m 6 (m 10 (500 + 9 * m 10 (1000 + 10 * j + 1) + 6)) (m 10 0)) 6 ≤ v then (1 : Int) else 0) = u at hu1 ⊢
      have hd2 : m 10 (500 + 9 * m 10 (1000 + 10 * j + 1) + 6) < m 10 0 ∧ m 10 (1000 + 10 * j + 6) = 0 := by omega
      obtain ⟨m2, hm⟩ : ∃ z, z = hu (hu m 10 (1000 + 10 * j + 3) v) 10 (1000 + 10 * j + 4) u := ⟨_, rfl⟩
      rw [← hm]
      have er : ∀ a, a ≠ 10 → m2 a = m a := fun a ha => by rw [hm]; simp only [hu_row ha]
      have e : ∀ x, ¬ (1000 + 10 * j + 3 ≤ x ∧ x ≤ 1000 + 10 * j + 4) → m2 10 x = m 10 x := fun x hx => by rw [hm]; simp (disch := omega) only [hu_ni]
      have k0 := e 0 (by omega)
      have k1 := e 1 (by omega)
      have k2 := e 2 (by omega)
      have k3 := e 3 (by omega)
      have k4 := e 4 (by omega)
      have k5 := e 5 (by omega)
      have k6 := e 6 (by omega)
      refine RX_10e X er (BI_mk X.b0 k0 (fun x x0 x1 => e x (by omega)) (by omega) (by omega) (by omega) (by omega) (by omega) (by omega) ?_ ?_ ?_ ?_ ?_ ?_ ?_ ?_ ?_) k4 ⟨by omega, by omega, by omega⟩
      · exact fr_tr (fun x x0 x1 => e x (by omega)) R.tr
      · exact fr_li (fun x x0 x1 => e x (by omega)) R.li
      · exact fr_ha (fun x x0 x1 => e x (by omega)) (by omega) c2.2 (by omega) R.ha
      · exact fr_co (fun x x0 x1 => e x (by omega)) (by omega) c3.2 R.co
      · exact fr_ru (fun x x0 x1 => e x (by omega)) (by omega) c5.2 (by omega) R.ru
      · intro t t0 t1
        have z := R.jo t t0 (by omega)
        rw [k1, k2, k3, e (1000 + 10 * t) (by omega), e (1000 + 10 * t + 1) (by omega), e (1000 + 10 * t + 2) (by omega), e (1000 + 10 * t + 5) (by omega), e (1000 + 10 * t + 6) (by omega), e (1000 + 10 * t + 7) (by omega), e (1000 + 10 * t + 8) (by omega)]
        by_cases hi : t = j
        · subst hi
          rw [hm]
          simp (disch := omega) only [hu_ni, hu_eqo, hu_row, hu_ne]
          omega
        · rw [e (1000 + 10 * t + 3) (by omega), e (1000 + 10 * t + 4) (by omega)]
          exact z
      · exact fr_re (fun x x0 x1 => e x (by omega)) R.re
      · intro t t0 t1
        have z := J t t0 (by omega)
        have r := R.jo t t0 (by omega)
        rw [k0, e (1000 + 10 * t + 5) (by omega), e (1000 + 10 * t + 1) (by omega), e (1000 + 10 * t + 6) (by omega), e (500 + 9 * m 10 (1000 + 10 * t + 1) + 6) (by omega)]
        by_cases hi : t = j
        · subst hi
          rw [hm]
          simp (disch := omega) only [hu_ni, hu_eqo, hu_row, hu_ne]
          exact ⟨fun _ => hj.2.1, fun _ => hd2⟩
        · rw [e (1000 + 10 * t + 3) (by omega)]
          exact z
      · intro t t0 t1
        have z := Y t t0 t1
        rw [e (1000 + 10 * t + 6) (by omega), e (1000 + 10 * t + 8) (by omega)]
        by_cases hi : t = j
        · subst hi
          rw [hm]
          simp (disch := omega) only [hu_ni, hu_eqo, hu_row, hu_ne]
          omega
        · rw [e (1000 + 10 * t + 4) (by omega)]
          exact z
theorem K_join {m : jx_H} {i c B : Int} (X : RX m B) : RX (sp_join m i c).2 B := by
  have R := X.b0.1
  have J := X.b0.2.2.1
  have Y := X.b0.2.2.2.2
  have c0 := R.c0
  have c1 := R.c1
  have c2 := R.c2
  have c3 := R.c3
  have c4 := R.c4
  have c5 := R.c5
  have c6 := R.c6
  unfold sp_join
  split
  · exact X
  · rename_i hc
    split
    · exact X
    · rename_i hd
      clear hd
      have hj : (0 ≤ i ∧ i < m 10 2) ∧ (0 ≤ c ∧ c < m 10 3) ∧ m 10 6 < 120 ∧ 0 ≤ m 10 (100 + 6 * i + 3) := by omega
      clear hc
      have ri := R.ha i hj.1.1 hj.1.2
      have rc := R.co c hj.2.1.1 hj.2.1.2
      have hmul : 0 ≤ m 10 (100 + 6 * i + 2) * m 10 (500 + 9 * c + 2) ∧ m 10 (100 + 6 * i + 2) * m 10 (500 + 9 * c + 2) ≤ 5000 * 200 := ⟨Int.mul_nonneg (by omega) (by omega), Int.mul_le_mul (by omega) (by omega) (by omega) (by omega)⟩
      have hdv : 0 ≤ m 10 (100 + 6 * i + 2) * m 10 (500 + 9 * c + 2) / 160 ∧ m 10 (100 + 6 * i + 2) * m 10 (500 + 9 * c + 2) / 160 ≤ 6250 := by
        generalize m 10 (100 + 6 * i + 2) * m 10 (500 + 9 * c + 2) = q at hmul ⊢
        omega
      show RX (hu (hu (hu (hu (hu (hu (hu (hu (hu (hu m 10 (1000 + 10 * m 10 6) i) 10 (1000 + 10 * m 10 6 + 1) c) 10 (1000 + 10 * m 10 6 + 2) (m 10 (100 + 6 * i + 3))) 10 (1000 + 10 * m 10 6 + 3) (-1)) 10 (1000 + 10 * m 10 6 + 4) 0) 10 (1000 + 10 * m 10 6 + 5) (-1)) 10 (1000 + 10 * m 10 6 + 6) 0) 10 (1000 + 10 * m 10 6 + 7) (m 10 (100 + 6 * i + 2) * m 10 (500 + 9 * c + 2) / 160)) 10 (1000 + 10 * m 10 6 + 8) 0) 10 6 (m 10 6 + 1)) B
      generalize m 10 (100 + 6 * i + 2) * m 10 (500 + 9 * c + 2) / 160 = q at hdv ⊢
      obtain ⟨m2, hm⟩ : ∃ z, z = hu (hu (hu (hu (hu (hu (hu (hu (hu (hu m 10 (1000 + 10 * m 10 6) i) 10 (1000 + 10 * m 10 6 + 1) c) 10 (1000 + 10 * m 10 6 + 2) (m 10 (100 + 6 * i + 3))) 10 (1000 + 10 * m 10 6 + 3) (-1)) 10 (1000 + 10 * m 10 6 + 4) 0) 10 (1000 + 10 * m 10 6 + 5) (-1)) 10 (1000 + 10 * m 10 6 + 6) 0) 10 (1000 + 10 * m 10 6 + 7) (q)) 10 (1000 + 10 * m 10 6 + 8) 0) 10 6 (m 10 6 + 1) := ⟨_, rfl⟩
      rw [← hm]
      have er : ∀ a, a ≠ 10 → m2 a = m a := fun a ha => by rw [hm]; simp only [hu_row ha]
      have e : ∀ x, (x ≠ 6 ∧ ¬ (1000 + 10 * m 10 6 ≤ x ∧ x ≤ 1000 + 10 * m 10 6 + 8)) → m2 10 x = m 10 x := fun x hx => by rw [hm]; simp (disch := omega) only [hu_ni]
      have k0 := e 0 (by omega)
      have k1 := e 1 (by omega)
      have k2 := e 2 (by omega)
      have k3 := e 3 (by omega)
      have k4 := e 4 (by omega)
      have k5 := e 5 (by omega)
      have k6 : m2 10 6 = m 10 6 + 1 := by rw [hm]; simp (disch := omega) only [hu_ni, hu_eqo, hu_row, hu_ne]
      refine RX_10e X er (BI_mk X.b0 k0 (fun x x0 x1 => e x (by omega)) (by omega) (by omega) (by omega) (by omega) (by omega) (by omega) ?_ ?_ ?_ ?_ ?_ ?_ ?_ ?_ ?_) k4 ⟨by omega, by omega, by omega⟩
      · exact fr_tr (fun x x0 x1 => e x (by omega)) R.tr
      · exact fr_li (fun x x0 x1 => e x (by omega)) R.li
      · exact fr_ha (fun x x0 x1 => e x (by omega)) (by omega) c2.2 (by omega) R.ha
      · exact fr_co (fun x x0 x1 => e x (by omega)) (by omega) c3.2 R.co
      · exact fr_ru (fun x x0 x1 => e x (by omega)) (by omega) c5.2 (by omega) R.ru
      · intro t t0 t1
        rw [k1, k2, k3]
        by_cases hi : t = m 10 6
        · subst hi
          rw [hm]
          simp (disch := omega) only [hu_ni, hu_eqo, hu_row, hu_ne]
          omega
        · have z := R.jo t t0 (by omega)
          rw [e (1000 + 10 * t) (by omega), e (1000 + 10 * t + 1) (by omega), e (1000 + 10 * t + 2) (by omega), e (1000 + 10 * t + 3) (by omega), e (1000 + 10 * t + 4) (by omega), e (1000 + 10 * t + 5) (by omega), e (1000 + 10 * t + 6) (by omega), e (1000 + 10 * t + 7) (by omega), e (1000 + 10 * t + 8) (by omega)]
          exact z
      · exact fr_re (fun x x0 x1 => e x (by omega)) R.re
      · intro t t0 t1
        by_cases hi : t = m 10 6
        · subst hi
          rw [hm]
          simp (disch := omega) only [hu_ni, hu_eqo, hu_row, hu_ne]
          exact ⟨fun y => by omega, fun y => by omega⟩
        · have z := J t t0 (by omega)
          have r := R.jo t t0 (by omega)
          rw [k0, e (1000 + 10 * t + 5) (by omega), e (1000 + 10 * t + 3) (by omega), e (1000 + 10 * t + 1) (by omega), e (1000 + 10 * t + 6) (by omega), e (500 + 9 * m 10 (1000 + 10 * t + 1) + 6) (by omega)]
          exact z
      · intro t t0 t1
        by_cases hi : t = m 10 6
        · subst hi
          rw [hm]
          simp (disch := omega) only [hu_ni, hu_eqo, hu_row, hu_ne]
          omega
        · have z := Y t t0 t1
          rw [e (1000 + 10 * t + 4) (by omega), e (1000 + 10 * t + 6) (by omega), e (1000 + 10 * t + 8) (by omega)]
          exact z
