/-! every call keeps what holds between two calls: the rest -/
theorem K_at3 {m : jx_H} {i v B : Int} (X : RX m B) (hi : 0 ≤ i ∧ i < m 10 2) (hv : -1 ≤ v ∧ v < m 10 1) : RX (hu m 10 (100 + 6 * i + 3) v) B := by
  have R := X.b0.1
  have J := X.b0.2.2.1
  have Y := X.b0.2.2.2.2
  have c0 := R.c0
  have c1 := R.c1
  have c2 := R.c2
  have c3 := R.c3
  have c4 := R.c4
  have c5 := R.c5
  have c6 := R.c6
  obtain ⟨m2, hm⟩ : ∃ z, z = hu m 10 (100 + 6 * i + 3) v := ⟨_, rfl⟩
  rw [← hm]
  have er : ∀ a, a ≠ 10 → m2 a = m a := fun a ha => by rw [hm]; simp only [hu_row ha]
  have e : ∀ x, x ≠ 100 + 6 * i + 3 → m2 10 x = m 10 x := fun x hx => by rw [hm]; simp (disch := omega) only [hu_ni]
  have k0 := e 0 (by omega)
  have k1 := e 1 (by omega)
  have k2 := e 2 (by omega)
  have k3 := e 3 (by omega)
  have k4 := e 4 (by omega)
  have k5 := e 5 (by omega)
  have k6 := e 6 (by omega)
  refine RX_10e X er (BI_mk X.b0 k0 (fun x x0 x1 => e x (by omega)) (by omega) (by omega) (by omega) (by omega) (by omega) (by omega) ?_ ?_ ?_ ?_ ?_ ?_ ?_ ?_ ?_) k4 ⟨by omega, by omega, by omega⟩
  · exact fr_tr (fun x x0 x1 => e x (by omega)) R.tr
  · exact fr_li (fun x x0 x1 => e x (by omega)) R.li
  · intro t t0 t1
    have z := R.ha t t0 (by omega)
    rw [k1, e (100 + 6 * t) (by omega), e (100 + 6 * t + 1) (by omega), e (100 + 6 * t + 2) (by omega)]
    by_cases h9 : t = i
    · subst h9
      rw [hm]
      simp (disch := omega) only [hu_ni, hu_eqo, hu_row, hu_ne]
      omega
    · rw [e (100 + 6 * t + 3) (by omega)]
      exact z
  · exact fr_co (fun x x0 x1 => e x (by omega)) (by omega) c3.2 R.co
  · exact fr_ru (fun x x0 x1 => e x (by omega)) (by omega) c5.2 (by omega) R.ru
  · exact fr_jo (fun x x0 x1 => e x (by omega)) (by omega) c6.2 (by omega) (by omega) (by omega) R.jo
  · exact fr_re (fun x x0 x1 => e x (by omega)) R.re
  · exact fr_rj (fun x x0 x1 => e x (by omega)) (fun x x0 x1 => e x (by omega)) (by omega) c6.2 (by omega) R.jo J
  · exact fr_jb (fun x x0 x1 => e x (by omega)) Y
theorem K_at4 {m : jx_H} {i v B : Int} (X : RX m B) (hi : 0 ≤ i ∧ i < m 10 2) : RX (hu m 10 (100 + 6 * i + 4) v) B := by
  have R := X.b0.1
  have J := X.b0.2.2.1
  have Y := X.b0.2.2.2.2
  have c0 := R.c0
  have c1 := R.c1
  have c2 := R.c2
  have c3 := R.c3
  have c4 := R.c4
  have c5 := R.c5
  have c6 := R.c6
  obtain ⟨m2, hm⟩ : ∃ z, z = hu m 10 (100 + 6 * i + 4) v := ⟨_, rfl⟩
  rw [← hm]
  have er : ∀ a, a ≠ 10 → m2 a = m a := fun a ha => by rw [hm]; simp only [hu_row ha]
  have e : ∀ x, x ≠ 100 + 6 * i + 4 → m2 10 x = m 10 x := fun x hx => by rw [hm]; simp (disch := omega) only [hu_ni]
  have k0 := e 0 (by omega)
  have k1 := e 1 (by omega)
  have k2 := e 2 (by omega)
  have k3 := e 3 (by omega)
  have k4 := e 4 (by omega)
  have k5 := e 5 (by omega)
  have k6 := e 6 (by omega)
  refine RX_10e X er (BI_mk X.b0 k0 (fun x x0 x1 => e x (by omega)) (by omega) (by omega) (by omega) (by omega) (by omega) (by omega) ?_ ?_ ?_ ?_ ?_ ?_ ?_ ?_ ?_) k4 ⟨by omega, by omega, by omega⟩
  · exact fr_tr (fun x x0 x1 => e x (by omega)) R.tr
  · exact fr_li (fun x x0 x1 => e x (by omega)) R.li
  · intro t t0 t1
    have z := R.ha t t0 (by omega)
    rw [k1, e (100 + 6 * t) (by omega), e (100 + 6 * t + 1) (by omega), e (100 + 6 * t + 2) (by omega), e (100 + 6 * t + 3) (by omega)]
    exact z
  · exact fr_co (fun x x0 x1 => e x (by omega)) (by omega) c3.2 R.co
  · exact fr_ru (fun x x0 x1 => e x (by omega)) (by omega) c5.2 (by omega) R.ru
  · exact fr_jo (fun x x0 x1 => e x (by omega)) (by omega) c6.2 (by omega) (by omega) (by omega) R.jo
  · exact fr_re (fun x x0 x1 => e x (by omega)) R.re
  · exact fr_rj (fun x x0 x1 => e x (by omega)) (fun x x0 x1 => e x (by omega)) (by omega) c6.2 (by omega) R.jo J
  · exact fr_jb (fun x x0 x1 => e x (by omega)) Y
theorem K_atO {m : jx_H} {y v B : Int} (X : RX m B) (hy : 2320 ≤ y ∧ y < 3000) : RX (hu m 10 y v) B := by
  have R := X.b0.1
  have J := X.b0.2.2.1
  have Y := X.b0.2.2.2.2
  have c0 := R.c0
  have c1 := R.c1
  have c2 := R.c2
  have c3 := R.c3
  have c4 := R.c4
  have c5 := R.c5
  have c6 := R.c6
  obtain ⟨m2, hm⟩ : ∃ z, z = hu m 10 y v := ⟨_, rfl⟩
  rw [← hm]
  have er : ∀ a, a ≠ 10 → m2 a = m a := fun a ha => by rw [hm]; simp only [hu_row ha]
  have e : ∀ x, x ≠ y → m2 10 x = m 10 x := fun x hx => by rw [hm]; simp (disch := omega) only [hu_ni]
  have k0 := e 0 (by omega)
  have k1 := e 1 (by omega)
  have k2 := e 2 (by omega)
  have k3 := e 3 (by omega)
  have k4 := e 4 (by omega)
  have k5 := e 5 (by omega)
  have k6 := e 6 (by omega)
  refine RX_10e X er (BI_mk X.b0 k0 (fun x x0 x1 => e x (by omega)) (by omega) (by omega) (by omega) (by omega) (by omega) (by omega) ?_ ?_ ?_ ?_ ?_ ?_ ?_ ?_ ?_) k4 ⟨by omega, by omega, by omega⟩
  · exact fr_tr (fun x x0 x1 => e x (by omega)) R.tr
  · exact fr_li (fun x x0 x1 => e x (by omega)) R.li
  · exact fr_ha (fun x x0 x1 => e x (by omega)) (by omega) c2.2 (by omega) R.ha
  · exact fr_co (fun x x0 x1 => e x (by omega)) (by omega) c3.2 R.co
  · exact fr_ru (fun x x0 x1 => e x (by omega)) (by omega) c5.2 (by omega) R.ru
  · exact fr_jo (fun x x0 x1 => e x (by omega)) (by omega) c6.2 (by omega) (by omega) (by omega) R.jo
  · exact fr_re (fun x x0 x1 => e x (by omega)) R.re
  · exact fr_rj (fun x x0 x1 => e x (by omega)) (fun x x0 x1 => e x (by omega)) (by omega) c6.2 (by omega) R.jo J
  · exact fr_jb (fun x x0 x1 => e x (by omega)) Y
theorem K_at5 {m : jx_H} {j v B : Int} (X : RX m B) (hj : 0 ≤ j ∧ j < m 10 6) (hv : -1 ≤ v ∧ v ≤ 1000000) (hm3 : 0 ≤ v → 0 ≤ m 10 (1000 + 10 * j + 3)) : RX (hu m 10 (1000 + 10 * j + 5) v) B := by
  have R := X.b0.1
  have J := X.b0.2.2.1
  have Y := X.b0.2.2.2.2
  have c0 := R.c0
  have c1 := R.c1
  have c2 := R.c2
  have c3 := R.c3
  have c4 := R.c4
  have c5 := R.c5
  have c6 := R.c6
  obtain ⟨m2, hm⟩ : ∃ z, z = hu m 10 (1000 + 10 * j + 5) v := ⟨_, rfl⟩
  rw [← hm]
  have er : ∀ a, a ≠ 10 → m2 a = m a := fun a ha => by rw [hm]; simp only [hu_row ha]
  have e : ∀ x, x ≠ 1000 + 10 * j + 5 → m2 10 x = m 10 x := fun x hx => by rw [hm]; simp (disch := omega) only [hu_ni]
  have k0 := e 0 (by omega)
  have k1 := e 1 (by omega)
  have k2 := e 2 (by omega)
  have k3 := e 3 (by omega)
  have k4 := e 4 (by omega)
  have k5 := e 5 (by omega)
  have k6 := e 6 (by omega)
  refine RX_10e X er (BI_mk X.b0 k0 (fun x x0 x1 => e x (by omega)) (by omega) (by omega) (by omega) (by omega) (by omega) (by omega) ?_ ?_ ?_ ?_ ?_ ?_ ?_ ?_ ?_) k4 ⟨by omega, by omega, by omega⟩
  · exact fr_tr (fun x x0 x1 => e x (by omega)) R.tr
  · exact fr_li (fun x x0 x1 => e x (by omega)) R.li
  · exact fr_ha (fun x x0 x1 => e x (by omega)) (by omega) c2.2 (by omega) R.ha
  · exact fr_co (fun x x0 x1 => e x (by omega)) (by omega) c3.2 R.co
  · exact fr_ru (fun x x0 x1 => e x (by omega)) (by omega) c5.2 (by omega) R.ru
  · intro t t0 t1
    have z := R.jo t t0 (by omega)
    rw [k1, k2, k3, e (1000 + 10 * t) (by omega), e (1000 + 10 * t + 1) (by omega), e (1000 + 10 * t + 2) (by omega), e (1000 + 10 * t + 3) (by omega), e (1000 + 10 * t + 4) (by omega), e (1000 + 10 * t + 6) (by omega), e (1000 + 10 * t + 7) (by omega), e (1000 + 10 * t + 8) (by omega)]
    by_cases hi : t = j
    · subst hi
      rw [hm]
      simp (disch := omega) only [hu_ni, hu_eqo, hu_row, hu_ne]
      omega
    · rw [e (1000 + 10 * t + 5) (by omega)]
      exact z
  · exact fr_re (fun x x0 x1 => e x (by omega)) R.re
  · intro t t0 t1
    have z := J t t0 (by omega)
    have r := R.jo t t0 (by omega)
    rw [k0, e (1000 + 10 * t + 3) (by omega), e (1000 + 10 * t + 1) (by omega), e (1000 + 10 * t + 6) (by omega), e (500 + 9 * m 10 (1000 + 10 * t + 1) + 6) (by omega)]
    by_cases hi : t = j
    · subst hi
      rw [hm]
      simp (disch := omega) only [hu_ni, hu_eqo, hu_row, hu_ne]
      exact ⟨hm3, z.2⟩
    · rw [e (1000 + 10 * t + 5) (by omega)]
      exact z
  · intro t t0 t1
    have z := Y t t0 t1
    rw [e (1000 + 10 * t + 4) (by omega), e (1000 + 10 * t + 6) (by omega), e (1000 + 10 * t + 8) (by omega)]
    exact z
theorem K_fu {m : jx_H} {B B2 v : Int} (X : RX m B) (hB : B ≤ B2) (hv : -B2 ≤ v ∧ v ≤ B2) : RX (hu m 1 2 v) B2 := RX_10 X (fun a _ h1 => hu_row h1) (fun x hx => hu_ni hx) (by rw [hu_row (by decide)]; exact X.b0) (by rw [hu_row (by decide)]) (by rw [hu_row (by decide)]; omega) hB (by unfold FUb; rw [hu_eq]; exact hv)
theorem BI_once {a : Int → Int} (I : BI a) (i : Int) : BI (sOnceR a i (a 6)) := by
  obtain ⟨R, P, J, Z, Y⟩ := I
  have c0 := R.c0
  have c3 := R.c3
  have c6 := R.c6
  have e := sOnceR_eq R i c6.2
  have R2 := RA_once e R
  obtain ⟨e1, -⟩ := e
  refine ⟨R2, fr_pt (e1 0 (by omega)) (fun x x0 x1 => e1 x (by omega)) P, ?_, fr_hz (by rw [e1 0 (by omega)]; exact Int.le_refl _) c0.1 (fun x x0 x1 => e1 x (by omega)) Z, ?_⟩
  · intro t t0 t1
    rw [e1 6 (by omega)] at t1
    have z := J t t0 t1
    have r := R.jo t t0 t1
    rw [e1 0 (by omega), e1 (1000 + 10 * t + 5) (by omega), e1 (1000 + 10 * t + 3) (by omega), e1 (1000 + 10 * t + 1) (by omega), e1 (1000 + 10 * t + 6) (by omega), e1 (500 + 9 * a (1000 + 10 * t + 1) + 6) (by omega)]
    exact z
  · intro t t0 t1
    have z := Y t t0 t1
    rw [e1 (1000 + 10 * t + 4) (by omega), e1 (1000 + 10 * t + 6) (by omega)]
    refine ⟨z.1, z.2.1, ?_⟩
    unfold sOnceR
    split
    · omega
    · exact z.2.2
theorem K_once {m : jx_H} {B : Int} (X : RX m B) (i : Int) : RX (hr m 10 (sOnceR (m 10) i (m 10 6))) B := by
  have R := X.b0.1
  have c6 := R.c6
  have e := (sOnceR_eq R i c6.2).1
  have e10 : hr m 10 (sOnceR (m 10) i (m 10 6)) 10 = sOnceR (m 10) i (m 10 6) := if_pos rfl
  refine RX_10e X (fun a ha => if_neg ha) (by rw [e10]; exact BI_once X.b0 i) (by rw [e10]; exact e 4 (by omega)) ?_
  rw [e10, e 0 (by omega), e 3 (by omega), e 5 (by omega)]
  exact ⟨Int.le_refl _, Int.le_refl _, Int.le_refl _⟩
theorem K_go {m : jx_H} {i f B : Int} (X : RX m B) : RX (sp_go m i f).2 B := by
  have R := X.b0.1
  have c1 := R.c1
  have c2 := R.c2
  have c6 := R.c6
  have K := K_once X i
  have e := (sOnceR_eq R i c6.2).1
  have e10 : hr m 10 (sOnceR (m 10) i (m 10 6)) 10 = sOnceR (m 10) i (m 10 6) := if_pos rfl
  have q1 := e 1 (by omega)
  have q2 := e 2 (by omega)
  rw [← e10] at q1 q2
  unfold sp_go
  split
  · exact X
  · rename_i hc
    split
    · exact X
    · have hi : 0 ≤ i ∧ i < m 10 2 := by omega
      have hf : -1 ≤ f ∧ f < m 10 1 := by omega
      have ri := R.ha i hi.1 hi.2
      dsimp only
      generalize hr m 10 (sOnceR (m 10) i (m 10 6)) = m1 at K q1 q2 ⊢
      have K2 := K_at3 (i := i) (v := f) K (by omega) (by omega)
      split
      · exact K2
      · have hx : 0 ≤ (if f < 0 then (20 : Int) else f) ∧ (if f < 0 then (20 : Int) else f) ≤ 20 := by split <;> omega
        refine K_at4 (K_atO K2 (by omega)) ?_
        rw [hu_ni (by omega), hu_ni (by omega)]
        omega
theorem K_appeal {m : jx_H} {j B : Int} (X : RX m B) : RX (sp_appeal m j).2 (B + 1000000) := by
  have R := X.b0.1
  have c6 := R.c6
  have f := X.fu
  unfold sp_appeal
  split
  · exact RX_B X (by omega)
  · rename_i hc
    split
    · exact RX_B X (by omega)
    · have hj : 0 ≤ j ∧ j < m 10 6 := by omega
      have rj := R.jo j hj.1 hj.2
      unfold FUb at f
      exact K_at5 (K_fu X (by omega) (by omega)) (by rw [hu_row (by decide)]; exact hj) (by omega) (fun z => absurd z (by decide))
theorem K_claim {m : jx_H} {j B : Int} (X : RX m B) : RX (sp_claim m j).2 B := by
  have R := X.b0.1
  have c6 := R.c6
  have f := X.fu
  unfold FUb at f
  have hb := sBkD_b m j
  unfold sp_claim
  split
  · exact X
  · rename_i h1
    split
    · exact X
    · split
      · exact X
      · rename_i h3
        split
        · exact X
        · split
          · exact X
          · split
            · exact X
            · rename_i h6
              have hj : 0 ≤ j ∧ j < m 10 6 := by omega
              exact K_at5 (K_fu X (Int.le_refl _) (by omega)) (by rw [hu_row (by decide)]; exact hj) (by omega) (fun _ => by rw [hu_row (by decide)]; omega)
theorem K_months {m : jx_H} {n B : Int} (X : RX m B) : RX (sp_months m n).2 (B + 1200000000) := by
  have R := X.b0.1
  have c0 := R.c0
  have c3 := R.c3
  have c6 := R.c6
  have cc := X.cc
  have f3 := X.f3
  unfold sp_months
  split
  · exact RX_B X (by omega)
  · rename_i hc
    obtain ⟨R2, TX2, P2, F2, e, e0⟩ := sMonths_inv R X.tx X.b0.2.1 X.fu n.toNat (by omega)
    obtain ⟨Z2, er, e1⟩ := sMonths_r R X.tx X.b0.2.1 X.fu X.b0.2.2.2.1 n.toNat (by omega)
    show RX (sMonths m n.toNat) _
    have hn : (n.toNat : Int) = n := Int.toNat_of_nonneg (by omega)
    rw [hn] at F2 e0
    generalize sMonths m n.toNat = m2 at *
    have e11 := er 11 (by decide) (by decide)
    have k3 := e 3 (by decide) (by decide)
    have k4 := e 4 (by decide) (by decide)
    have k5 := e 5 (by decide) (by decide)
    have k6 := e 6 (by decide) (by decide)
    refine rx_mk ⟨R2, P2, fr_rj (fun x x0 x1 => e x (by omega) (by omega)) (fun x x0 x1 => e x (by omega) (by omega)) (by omega) c6.2 (by omega) R.jo X.b0.2.2.1, Z2, fr_jb (fun x x0 x1 => e x (by omega) (by omega)) X.b0.2.2.2.2⟩ (by rw [e11]; exact X.b1) TX2 (TY_le (by omega) (er 20 (by decide) (by decide)) (er 22 (by decide) (by decide)) (er 23 (by decide) (by decide)) (er 24 (by decide) (by decide)) X.ty) (RT_eq (e1 7 (by decide)) (e1 5 (by decide)) (er 14 (by decide) (by decide)) X.rt) (BY_eq (er 16 (by decide) (by decide)) X.yb) ?_ ?_ ?_
    · rw [e11]; omega
    · unfold FUb at F2 ⊢; omega
    · rw [e1 3 (by decide)]; omega
/-- tape and sheet alone -/
theorem RX_se {m m2 : jx_H} {B : Int} (X : RX m B) (er : ∀ a, a ≠ 1 → a ≠ 14 → a ≠ 16 → m2 a = m a) (h2 : m2 1 2 = m 1 2) (h3 : m2 1 3 = m 1 3) (rt : RT m2) (yb : BY m2) : RX m2 B := by
  have e10 := er 10 (by decide) (by decide) (by decide)
  have e11 := er 11 (by decide) (by decide) (by decide)
  refine rx_mk (by rw [e10]; exact X.b0) (by rw [e11]; exact X.b1) (TX_le (by rw [e10]; exact Int.le_refl _) (er 20 (by decide) (by decide) (by decide)) (er 21 (by decide) (by decide) (by decide)) (er 22 (by decide) (by decide) (by decide)) (er 23 (by decide) (by decide) (by decide)) (er 24 (by decide) (by decide) (by decide)) X.tx) (TY_le (by rw [e10]; exact Int.le_refl _) (er 20 (by decide) (by decide) (by decide)) (er 22 (by decide) (by decide) (by decide)) (er 23 (by decide) (by decide) (by decide)) (er 24 (by decide) (by decide) (by decide)) X.ty) rt yb ?_ (FUb_eq h2 (Int.le_refl _) X.fu) ?_
  · rw [e10, e11]; exact X.cc
  · rw [h3]; exact X.f3
theorem K_end {m : jx_H} {x B : Int} (X : RX m B) : RX (sp_end m x).2 B := by
  have T := X.rt
  unfold sp_end
  split
  · exact X
  · rename_i hc
    show RX (hu m 1 7 x) B
    refine RX_se X (fun a h _ _ => hu_row h) (hu_ni (by decide)) (hu_ni (by decide)) ⟨?_, ?_, ?_⟩ (BY_eq (hu_row (by decide)) X.yb)
    · show 0 ≤ hu m 1 7 x 1 7 ∧ hu m 1 7 x 1 7 ≤ 300
      rw [hu_eq]
      have := T.1
      omega
    · show -1 ≤ hu m 1 7 x 1 5 ∧ hu m 1 7 x 1 5 < 50
      rw [hu_ni (by decide)]
      exact T.2.1
    · show ∀ k, 0 ≤ k → k < 40 → w32 (hu m 1 7 x 14 k) = hu m 1 7 x 14 k
      rw [hu_row (by decide)]
      exact T.2.2
theorem w8_b (x : Int) : -128 ≤ w8 x ∧ w8 x < 128 := by unfold w8; omega
theorem BY_hu {m : jx_H} {k x : Int} (h : BY m) : BY (hu m 16 k (w8 x)) := fun j j0 j1 => by
  unfold hu
  split
  · exact w8_b x
  · exact h j j0 j1
/-- four bytes more -/
theorem K_put {m : jx_H} {x B : Int} (X : RX m B) (h : 0 ≤ m 1 7 ∧ m 1 7 ≤ 296) : RX (s_put m x) B ∧ s_put m x 1 7 = m 1 7 + 4 := by
  have T := X.rt
  have e7 : s_put m x 1 7 = m 1 7 + 4 := by unfold s_put; rw [hu_eq]
  have e5 : s_put m x 1 5 = m 1 5 := by unfold s_put; rw [hu_ni (by decide), hu_row (by decide), hu_row (by decide), hu_row (by decide), hu_row (by decide)]
  have e14 : s_put m x 14 = m 14 := by unfold s_put; rw [hu_row (by decide), hu_row (by decide), hu_row (by decide), hu_row (by decide), hu_row (by decide)]
  refine ⟨RX_se X (fun a h1 _ h3 => ?_) ?_ ?_ ⟨by rw [e7]; omega, by rw [e5]; exact T.2.1, by rw [e14]; exact T.2.2⟩ ?_, e7⟩
  · unfold s_put
    rw [hu_row h1, hu_row h3, hu_row h3, hu_row h3, hu_row h3]
  · unfold s_put
    rw [hu_ni (by decide), hu_row (by decide), hu_row (by decide), hu_row (by decide), hu_row (by decide)]
  · unfold s_put
    rw [hu_ni (by decide), hu_row (by decide), hu_row (by decide), hu_row (by decide), hu_row (by decide)]
  · unfold s_put
    exact BY_eq (hu_row (by decide)) (BY_hu (BY_hu (BY_hu (BY_hu X.yb))))
theorem K_feed {m : jx_H} {x1 x2 x3 x4 x5 B : Int} (X : RX m B) : RX (sp_feed m x1 x2 x3 x4 x5).2 B := by
  have T := X.rt.1
  unfold sp_feed
  split
  · exact X
  · rename_i hc
    have a1 := K_put (x := x1) X (by omega)
    have a2 := K_put (x := x2) a1.1 (by have := a1.2; omega)
    have a3 := K_put (x := x3) a2.1 (by have := a1.2; have := a2.2; omega)
    have a4 := K_put (x := x4) a3.1 (by have := a1.2; have := a2.2; have := a3.2; omega)
    exact (K_put (x := x5) a4.1 (by have := a1.2; have := a2.2; have := a3.2; have := a4.2; omega)).1
theorem K_alter {m : jx_H} {f b v B : Int} (X : RX m B) : RX (sp_alter m f b v).2 B := by
  have T := X.rt
  unfold sp_alter
  split
  · exact X
  · show RX (hu m 14 (2 * f + b) (jx_xor (m 14 (2 * f + b)) v)) B
    refine RX_se X (fun a _ h _ => hu_row h) (by rw [hu_row (by decide)]) (by rw [hu_row (by decide)]) ⟨?_, ?_, ?_⟩ (BY_eq (hu_row (by decide)) X.yb)
    · rw [hu_row (by decide)]; exact T.1
    · rw [hu_row (by decide)]; exact T.2.1
    · intro k k0 k1
      unfold hu
      split
      · exact xor_w _ _
      · exact T.2.2 k k0 k1
theorem K_sheet {m : jx_H} {y B : Int} (X : RX m B) : RX (sp_sheet m y).2 B := by
  have T := X.rt
  unfold sp_sheet
  split
  · rename_i hy
    have r : ∀ a, a ≠ 14 → hr (hu m 1 5 y) 14 (shR m y 40) a = hu m 1 5 y a := fun a h => if_neg h
    show RX (hr (hu m 1 5 y) 14 (shR m y 40)) B
    refine RX_se X (fun a h1 h _ => (r a h).trans (hu_row h1)) (by rw [r 1 (by decide), hu_ni (by decide)]) (by rw [r 1 (by decide), hu_ni (by decide)]) ⟨?_, ?_, ?_⟩ (BY_eq ((r 16 (by decide)).trans (hu_row (by decide))) X.yb)
    · show 0 ≤ hr (hu m 1 5 y) 14 (shR m y 40) 1 7 ∧ _
      rw [r 1 (by decide), hu_ni (by decide)]; exact T.1
    · show -1 ≤ hr (hu m 1 5 y) 14 (shR m y 40) 1 5 ∧ _
      rw [r 1 (by decide), hu_eq]; omega
    · intro k k0 k1
      have e : hr (hu m 1 5 y) 14 (shR m y 40) 14 k = sBook m y k := by
        show (if (14 : Int) = 14 then shR m y 40 else _) k = _
        rw [if_pos rfl]
        exact if_pos ⟨k0, k1⟩
      have b := sBook_b X.b0.1 (y := y) (k := k) (by omega) ⟨k0, k1⟩
      rw [e]
      exact w32_id (by omega) (by omega)
  · exact X
theorem s_cp_row {m : jx_H} {s d n a : Int} (h : a ≠ d) : s_cp m s d n a = m a := funext fun b => if_neg fun z => h z.1
theorem K_image {m : jx_H} {B : Int} (X : RX m B) : RX (sp_image m).2 B := by
  have f := X.fu
  show RX (hu (s_cp m 10 11 40000) 1 3 (m 1 2)) B
  have er : ∀ a, a ≠ 1 → a ≠ 11 → hu (s_cp m 10 11 40000) 1 3 (m 1 2) a = m a := fun a h1 h2 => (hu_row h1).trans (s_cp_row h2)
  have e11 : ∀ x, 0 ≤ x → x < 40000 → hu (s_cp m 10 11 40000) 1 3 (m 1 2) 11 x = m 10 x := fun x x0 x1 => by
    rw [hu_row (by decide)]
    exact if_pos ⟨rfl, x0, x1⟩
  have e1 : ∀ x, x ≠ 3 → hu (s_cp m 10 11 40000) 1 3 (m 1 2) 1 x = m 1 x := fun x hx => by
    rw [hu_ni hx, s_cp_row (by decide)]
  have e3 : hu (s_cp m 10 11 40000) 1 3 (m 1 2) 1 3 = m 1 2 := hu_eq
  generalize hu (s_cp m 10 11 40000) 1 3 (m 1 2) = m2 at *
  have e10 := er 10 (by decide) (by decide)
  refine rx_mk (by rw [e10]; exact X.b0) (BI_ext e11 X.b0) (TX_le (by rw [e10]; exact Int.le_refl _) (er 20 (by decide) (by decide)) (er 21 (by decide) (by decide)) (er 22 (by decide) (by decide)) (er 23 (by decide) (by decide)) (er 24 (by decide) (by decide)) X.tx) (TY_le (by rw [e10]; exact Int.le_refl _) (er 20 (by decide) (by decide)) (er 22 (by decide) (by decide)) (er 23 (by decide) (by decide)) (er 24 (by decide) (by decide)) X.ty) (RT_eq (e1 7 (by decide)) (e1 5 (by decide)) (er 14 (by decide) (by decide)) X.rt) (BY_eq (er 16 (by decide) (by decide)) X.yb) ?_ (FUb_eq (e1 2 (by decide)) (Int.le_refl _) X.fu) ?_
  · rw [e10, e11 0 (by decide) (by decide), e11 3 (by decide) (by decide), e11 4 (by decide) (by decide), e11 5 (by decide) (by decide)]
    exact ⟨Int.le_refl _, Int.le_refl _, Int.le_refl _, Int.le_refl _⟩
  · rw [e3]; exact f
theorem K_back {m : jx_H} {B : Int} (X : RX m B) : RX (sp_back m).2 B := by
  have f3 := X.f3
  have cc := X.cc
  show RX (hu (s_cp m 11 10 40000) 1 2 (m 1 3)) B
  have er : ∀ a, a ≠ 1 → a ≠ 10 → hu (s_cp m 11 10 40000) 1 2 (m 1 3) a = m a := fun a h1 h2 => (hu_row h1).trans (s_cp_row h2)
  have e10 : ∀ x, 0 ≤ x → x < 40000 → hu (s_cp m 11 10 40000) 1 2 (m 1 3) 10 x = m 11 x := fun x x0 x1 => by
    rw [hu_row (by decide)]
    exact if_pos ⟨rfl, x0, x1⟩
  have e1 : ∀ x, x ≠ 2 → hu (s_cp m 11 10 40000) 1 2 (m 1 3) 1 x = m 1 x := fun x hx => by
    rw [hu_ni hx, s_cp_row (by decide)]
  have e2 : hu (s_cp m 11 10 40000) 1 2 (m 1 3) 1 2 = m 1 3 := hu_eq
  generalize hu (s_cp m 11 10 40000) 1 2 (m 1 3) = m2 at *
  have e11 := er 11 (by decide) (by decide)
  have k4 := e10 4 (by decide) (by decide)
  refine rx_mk (BI_ext e10 X.b1) (by rw [e11]; exact X.b1) (TX_le (by omega) (er 20 (by decide) (by decide)) (er 21 (by decide) (by decide)) (er 22 (by decide) (by decide)) (er 23 (by decide) (by decide)) (er 24 (by decide) (by decide)) X.tx) (TY_le (by omega) (er 20 (by decide) (by decide)) (er 22 (by decide) (by decide)) (er 23 (by decide) (by decide)) (er 24 (by decide) (by decide)) X.ty) (RT_eq (e1 7 (by decide)) (e1 5 (by decide)) (er 14 (by decide) (by decide)) X.rt) (BY_eq (er 16 (by decide) (by decide)) X.yb) ?_ ?_ ?_
  · rw [e11, e10 0 (by decide) (by decide), e10 3 (by decide) (by decide), e10 4 (by decide) (by decide), e10 5 (by decide) (by decide)]
    exact ⟨Int.le_refl _, Int.le_refl _, Int.le_refl _, Int.le_refl _⟩
  · unfold FUb; rw [e2]; exact f3
  · rw [e1 3 (by decide)]; exact f3
theorem RX_low {m m2 : jx_H} {B : Int} (X : RX m B) (er : ∀ a, a ≠ 1 → a < 34 → m2 a = m a) (e1 : ∀ x, (x < 15 ∧ x ≠ 7 ∧ x ≠ 8 ∧ x ≠ 9) → m2 1 x = m 1 x) (h7 : 0 ≤ m2 1 7 ∧ m2 1 7 ≤ 300) : RX m2 B := by
  have e10 := er 10 (by decide) (by decide)
  have e11 := er 11 (by decide) (by decide)
  have rt := X.rt
  refine rx_mk (by rw [e10]; exact X.b0) (by rw [e11]; exact X.b1) (TX_le (by rw [e10]; exact Int.le_refl _) (er 20 (by decide) (by decide)) (er 21 (by decide) (by decide)) (er 22 (by decide) (by decide)) (er 23 (by decide) (by decide)) (er 24 (by decide) (by decide)) X.tx) (TY_le (by rw [e10]; exact Int.le_refl _) (er 20 (by decide) (by decide)) (er 22 (by decide) (by decide)) (er 23 (by decide) (by decide)) (er 24 (by decide) (by decide)) X.ty) ⟨h7, by rw [e1 5 (by decide)]; exact rt.2.1, by rw [er 14 (by decide) (by decide)]; exact rt.2.2⟩ (BY_eq (er 16 (by decide) (by decide)) X.yb) ?_ (FUb_eq (e1 2 (by decide)) (Int.le_refl _) X.fu) ?_
  · rw [e10, e11]; exact X.cc
  · rw [e1 3 (by decide)]; exact X.f3
/-- a text was read, or none -/
theorem K_text {m m2 : jx_H} {v B : Int} (X : RX m B) (T : TxR m v m2) : RX m2 B := by
  have R := X.b0.1
  have J := X.b0.2.2.1
  have Y := X.b0.2.2.2.2
  have c0 := R.c0
  have c1 := R.c1
  have c2 := R.c2
  have c3 := R.c3
  have c4 := R.c4
  have c5 := R.c5
  have c6 := R.c6
  have cc := X.cc
  have rt := X.rt
  rcases T with ⟨-, -, e⟩ | ⟨t1, t2⟩
  · rw [e]; exact X
  · rcases t2 with ⟨e, -, -, F, -⟩ | ⟨acc, hg, -, F, h4, -, -, T1⟩
    · have r : ∀ b, b ≠ 1 → b < 34 → m2 b = m b := fun b b1 b2 => F.1 b b1 (by omega) (by omega) (by omega) (by omega) (by omega) (by omega) (by omega) (by omega) (by omega) (by omega)
      exact RX_low X r (fun x x1 => F.2.1 x x1.1 x1.2.1 x1.2.2.1 x1.2.2.2) (by rw [F.2.2]; decide)
    · have r : ∀ b, b ≠ 1 → b ≠ 10 → b < 20 → m2 b = m b := fun b b1 b2 b3 => F.1 b b1 b2 (by omega) (by omega) (by omega) (by omega) (by omega) (by omega) (by omega) (by omega) (by omega) (by omega) (by omega) (by omega) (by omega) (by omega) (by omega)
      have e := F.2.1
      have e1 := F.2.2.1
      have e11 := r 11 (by decide) (by decide) (by decide)
      have hn := rt.1
      have hok := tks_ok (f := m 16) rt.1.2 301 0 (Int.le_refl _) rt.1.1 (by omega)
      have cok := (gText_ClOk _ _ [] acc hok.1 (fun t ht => (hok.2.2 t ht).1) (by have := hok.2.1; omega) hg List.nodup_nil (fun q hq => by cases hq)).2
      have k0 := e 0 (by decide)
      have k1 := e 1 (by decide)
      have k2 := e 2 (by decide)
      have k3 := e 3 (by decide)
      have k5 := e 5 (by decide)
      have k6 := e 6 (by decide)
      have tx := TX_new (t := m 10 4) X.tx X.ty ⟨c4.1, rfl, by omega⟩ h4 T1 cok
      have ty := TY_new (t := m 10 4) X.ty ⟨c4.1, rfl, by omega⟩ h4 T1 cok
      refine rx_mk (BI_mk X.b0 k0 (fun x x0 x1 => e x (by omega)) (by omega) (by omega) (by omega) (by omega) (by omega) (by omega) (fr_tr (fun x x0 x1 => e x (by omega)) R.tr) (fr_li (fun x x0 x1 => e x (by omega)) R.li) (fr_ha (fun x x0 x1 => e x (by omega)) (by omega) c2.2 (by omega) R.ha) (fr_co (fun x x0 x1 => e x (by omega)) (by omega) c3.2 R.co) (fr_ru (fun x x0 x1 => e x (by omega)) (by omega) c5.2 (by omega) R.ru) (fr_jo (fun x x0 x1 => e x (by omega)) (by omega) c6.2 (by omega) (by omega) (by omega) R.jo) (fr_re (fun x x0 x1 => e x (by omega)) R.re) (fr_rj (fun x x0 x1 => e x (by omega)) (fun x x0 x1 => e x (by omega)) (by omega) c6.2 (by omega) R.jo J) (fr_jb (fun x x0 x1 => e x (by omega)) Y)) (by rw [e11]; exact X.b1) tx ty ⟨?_, ?_, ?_⟩ (BY_eq (r 16 (by decide) (by decide) (by decide)) X.yb) ?_ (FUb_eq (e1 2 (by decide) (by decide) (by decide) (by decide)) (Int.le_refl _) X.fu) ?_
      · rw [F.2.2.2]; decide
      · rw [e1 5 (by decide) (by decide) (by decide) (by decide)]; exact rt.2.1
      · rw [r 14 (by decide) (by decide) (by decide)]; exact rt.2.2
      · rw [e11]; omega
      · rw [e1 3 (by decide) (by decide) (by decide) (by decide)]; exact X.f3
