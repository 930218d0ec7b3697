/-! the class: a MONTH goes by: what it leaves -/
theorem sLevy_lo {M N : jx_H} (e : Lo M N) (R : RA (M 10)) {f : Int} (hp : N 10 (3000 + 50 * f + M 10 0 / 12) = M 10 (3000 + 50 * f + M 10 0 / 12)) : sLevy N f = sLevy M f := by
  have e0 : N 10 0 = M 10 0 := e.1 0 (by decide)
  unfold sLevy sNmG
  rw [e0, hp, sWages_lo e.1 R, sHeads_lo e.1 R, sRule_lo e R, sRule_lo e R, sSays_lo e, sSays_lo e]
theorem sFirms_at {M : jx_H} (R : RA (M 10)) (h0 : M 10 0 < 600) : ∀ n : Nat, (n : Int) ≤ 20 → (∀ x, (∀ f : Int, 0 ≤ f → f < n → x ≠ 4000 + 600 * f + M 10 0 ∧ x ≠ 16000 + 600 * f + M 10 0 ∧ x ≠ 28000 + 600 * f + M 10 0 ∧ x ≠ 3000 + 50 * f + M 10 0 / 12) → sFirms M n 10 x = M 10 x) ∧ (∀ f : Int, 0 ≤ f → f < n → sFirms M n 10 (4000 + 600 * f + M 10 0) = sWages (M 10) f ∧ sFirms M n 10 (16000 + 600 * f + M 10 0) = sHeads (M 10) f + 1 ∧ sFirms M n 10 (28000 + 600 * f + M 10 0) = M 10 (3000 + 50 * f + M 10 0 / 12) ∧ sFirms M n 10 (3000 + 50 * f + M 10 0 / 12) = M 10 (3000 + 50 * f + M 10 0 / 12) + sLevy M f) ∧ sFirms M n 1 2 = M 1 2 + sSum (sLevy M) n ∧ (∀ a, a ≠ 1 → a ≠ 10 → sFirms M n a = M a) ∧ ∀ i, i ≠ 2 → sFirms M n 1 i = M 1 i
  | 0, _ => ⟨fun _ _ => rfl, fun f f0 f1 => by omega, by show M 1 2 = M 1 2 + 0; omega, fun _ _ _ => rfl, fun _ _ => rfl⟩
  | n + 1, hn => by
    have c0 := R.c0
    obtain ⟨i1, i2, i3, i4, i5⟩ := sFirms_at R h0 n (by omega)
    have lo : Lo M (sFirms M n) := ⟨fun x hx => i1 x fun f f0 f1 => by omega, i4 20 (by decide) (by decide), i4 21 (by decide) (by decide), i4 22 (by decide) (by decide), i4 23 (by decide) (by decide), i4 24 (by decide) (by decide)⟩
    have e0 : sFirms M n 10 0 = M 10 0 := lo.1 0 (by decide)
    have ep : sFirms M n 10 (3000 + 50 * (n : Int) + M 10 0 / 12) = M 10 (3000 + 50 * (n : Int) + M 10 0 / 12) := i1 _ fun f f0 f1 => by omega
    have ew := sWages_lo lo.1 R (n : Int)
    have eh := sHeads_lo lo.1 R (n : Int)
    have el := sLevy_lo lo R ep
    have es : sFirms M (n + 1) = sGoes (sFirms M n) (n : Int) := rfl
    rw [es]
    unfold sGoes sGo3
    rw [e0, ep, ew, eh, el]
    generalize sFirms M n = N at *
    refine ⟨fun x hx => ?_, fun f f0 f1 => ?_, ?_, fun a a1 a2 => ?_, fun i hi => ?_⟩
    · have hn := hx (n : Int) (by omega) (by omega)
      rw [hu_ne (by decide), hu_ni (by omega), hu_ni (by omega), hu_ni (by omega), hu_ni (by omega)]
      exact i1 x fun f f0 f1 => hx f f0 (by omega)
    · by_cases e : f = n
      · subst e
        refine ⟨?_, ?_, ?_, ?_⟩ <;> rw [hu_ne (by decide)]
        · rw [hu_ni (by omega), hu_ni (by omega), hu_ni (by omega), hu_eq]
        · rw [hu_ni (by omega), hu_ni (by omega), hu_eq]
        · rw [hu_ni (by omega), hu_eq]
        · rw [hu_eq]
      · have z := i2 f f0 (by omega)
        refine ⟨?_, ?_, ?_, ?_⟩ <;> rw [hu_ne (by decide), hu_ni (by omega), hu_ni (by omega), hu_ni (by omega), hu_ni (by omega)]
        · exact z.1
        · exact z.2.1
        · exact z.2.2.1
        · exact z.2.2.2
    · rw [hu_eq, i3]
      show _ = M 1 2 + (sSum (sLevy M) n + sLevy M (n : Int))
      omega
    · rw [hu_row a1, hu_row a2, hu_row a2, hu_row a2, hu_row a2]; exact i4 a a1 a2
    · rw [hu_ni hi, hu_ne (by decide), hu_ne (by decide), hu_ne (by decide), hu_ne (by decide)]; exact i5 i hi
theorem SPa_eq {h g : jx_H} {a : Int → Int} (h0 : a 0 ≤ 600) (p0 : ∀ k, 0 ≤ k → k < a 0 → g 50 k = h 50 k) (p1 : ∀ x, 0 ≤ x → x < 20 * a 0 → g 51 x = h 51 x ∧ g 52 x = h 52 x ∧ g 53 x = h 53 x) (s : SPa h a) : SPa g a := by
  have pp : ∀ f k, 0 ≤ f → f < 20 → 0 ≤ k → k < a 0 → pPaid g f k = pPaid h f k := fun f k f0 f1 k0 k1 => by
    unfold pPaid
    rw [p0 k k0 k1, (p1 (20 * k + f) (by omega) (by omega)).2.2]
  refine ⟨fun k k0 k1 => ?_, fun f y f0 f1 y0 y1 => ?_⟩
  · have z := s.1 k k0 k1
    rw [p0 k k0 k1]
    refine ⟨z.1, fun f f0 f1 => ?_⟩
    have zf := z.2 f f0 f1
    have q := p1 (20 * k + f) (by omega) (by omega)
    refine ⟨zf.1, fun hf => ?_⟩
    rw [q.1, q.2.1]
    have zz := zf.2 hf
    refine ⟨zz.1, zz.2.1, ?_⟩
    rw [← zz.2.2]
    by_cases e : k % 12 = 0
    · rw [if_pos e, if_pos e]
    · rw [if_neg e, if_neg e]; exact pp f (k - 1) f0 f1 (by omega) (by omega)
  · rw [s.2 f y f0 f1 y0 y1]
    by_cases e : 12 * y < a 0
    · rw [if_pos e, if_pos e]
      refine (pp f _ f0 f1 ?_ ?_).symm <;> split <;> omega
    · rw [if_neg e, if_neg e]
/-- within a MONTH, n FIRMS gone: what the class's heap holds against that ahead of it -/
def Mid (M h g : jx_H) (n : Int) : Prop := (∀ a, a ≠ 2 → ¬ (44 ≤ a ∧ a ≤ 45) → ¬ (50 ≤ a ∧ a ≤ 53) → g a = h a) ∧ (∀ i, i ≠ 7 → g 2 i = h 2 i) ∧ g 2 7 = M 1 2 + sSum (sLevy M) n.toNat ∧ (∀ k, k ≠ M 10 0 → g 50 k = h 50 k) ∧ g 50 (M 10 0) = M 10 1 ∧ (∀ x, ¬ (20 * M 10 0 ≤ x ∧ x < 20 * M 10 0 + 20) → g 51 x = h 51 x ∧ g 52 x = h 52 x ∧ g 53 x = h 53 x) ∧ ∀ f, 0 ≤ f → f < n → g 51 (20 * M 10 0 + f) = sWages (M 10) f ∧ g 52 (20 * M 10 0 + f) = sHeads (M 10) f ∧ g 53 (20 * M 10 0 + f) = M 10 (3000 + 50 * f + M 10 0 / 12) + sLevy M f
theorem Mid_sim {M h g : jx_H} {n : Int} (R : RA (M 10)) (R1 : RA (M 11)) (c11 : M 11 0 ≤ M 10 0) (S : Sim M h) (Q : Mid M h g n) : Sim (hu M 1 2 (M 1 2 + sSum (sLevy M) n.toNat)) g := by
  have a3 := R.c3
  have b3 := R1.c3
  have a4 := R.c4
  have a0 := R.c0
  obtain ⟨s1, s2, s3, s4, s5, s6, s7, s8, s9, s10, s11⟩ := S
  obtain ⟨q1, q2, q3, q4, q5, q6, -⟩ := Q
  have e10 : hu M 1 2 (M 1 2 + sSum (sLevy M) n.toNat) 10 = M 10 := hu_row (by decide)
  have e11 : hu M 1 2 (M 1 2 + sSum (sLevy M) n.toNat) 11 = M 11 := hu_row (by decide)
  have e : ∀ a, (a ≠ 2 ∧ ¬ (44 ≤ a ∧ a ≤ 45) ∧ ¬ (50 ≤ a ∧ a ≤ 53)) → g a = h a := fun a ha => q1 a ha.1 ha.2.1 ha.2.2
  refine ⟨?_, ?_, by rw [e10]; exact SC_fr a3.2 (fun k _ _ => e k (by omega)) s3, by rw [e11]; exact SC_fr b3.2 (fun k _ _ => e k (by omega)) s4, by rw [e10]; exact SR_fr (e 41 (by omega)) (e 42 (by omega)) (e 43 (by omega)) s5, by rw [e11]; exact SR_fr (e 41 (by omega)) (e 42 (by omega)) (e 43 (by omega)) s6, by rw [e10]; exact SPa_eq a0.2 (fun k k0 k1 => q4 k (by omega)) (fun x x0 x1 => q6 x (by omega)) s7, by rw [e11]; exact SPa_eq R1.c0.2 (fun k k0 k1 => q4 k (by omega)) (fun x x0 x1 => q6 x (by omega)) s8, ?_, SW_fr (e 930 (by omega)) (e 950 (by omega)) (e 970 (by omega)) (fun c _ _ => by rw [e 74 (by omega)]) s10, ?_⟩
  · obtain ⟨b1, b2, b3, b4, b5, b6⟩ := s1
    rw [e10, hu_eq]
    refine ⟨?_, ?_, ?_, ?_, ?_, ?_⟩
    · unfold SBc at *
      rw [q2 0 (by decide), q2 1 (by decide), q2 2 (by decide), q2 3 (by decide), q2 4 (by decide), q2 5 (by decide), q2 6 (by decide)]
      exact ⟨b1.1, b1.2.1, b1.2.2.1, b1.2.2.2.1, b1.2.2.2.2.1, b1.2.2.2.2.2.1, b1.2.2.2.2.2.2.1, q3⟩
    · intro t t0 t1
      rw [e 20 (by omega), e (20 + 1) (by omega), e (20 + 2) (by omega), e (20 + 3) (by omega)]; exact b2 t t0 t1
    · intro f f0 f1
      rw [e (20 + 4) (by omega)]; exact b3 f f0 f1
    · intro t b t0 t1 c0 c1
      rw [e (100 + t) (by omega)]; exact b4 t b t0 t1 c0 c1
    · intro i i0 i1
      rw [e (300 + i) (by omega)]; exact b5 i i0 i1
    · intro j j0 j1
      rw [e (500 + j) (by omega)]; exact b6 j j0 j1
  · rw [e11, hu_ni (by decide)]
    exact SB_fr (e 3 (by omega)) (fun k _ _ => e k (by omega)) (fun k _ _ => e k (by omega)) (fun k _ _ => e k (by omega)) (fun k _ _ => e k (by omega)) s2
  · have z := ST_fr a4.2 (fun k _ _ => e k (by omega)) (fun k _ _ => e k (by omega)) (fun k _ _ => e k (by omega)) s9
    intro t s t0 t1 u0 u1
    rw [e10] at t1
    have y := z t s t0 t1 u0 u1
    unfold STc at *
    rw [hu_row (by decide), hu_row (by decide), hu_row (by decide), hu_row (by decide), hu_row (by decide)]
    exact y
  · obtain ⟨z1, z2, z3, z4, z5, z6⟩ := s11
    refine ⟨by rw [e 6 (by omega), hu_ni (by decide)]; exact z1, by rw [e 6 (by omega), hu_ni (by decide)]; exact z2, by rw [e 6 (by omega), hu_ni (by decide)]; exact z3, ?_, ?_, ?_⟩
    · rw [e 60 (by omega), hu_ni (by decide), hu_row (by decide)]; exact z4
    · rw [e 7 (by omega), hu_ni (by decide)]; exact z5
    · rw [e 70 (by omega), e 71 (by omega), hu_row (by decide)]; exact z6
/-- no FIRM was there in MONTHS that haven't gone by -/
def HZ (a : Int → Int) : Prop := ∀ f k, 0 ≤ f → f < 20 → a 0 ≤ k → k < 600 → a (16000 + 600 * f + k) = 0
theorem Mid_end {M h g : jx_H} (R : RA (M 10)) (R1 : RA (M 11)) (Z : HZ (M 10)) (h0 : M 10 0 < 600) (c11 : M 11 0 ≤ M 10 0) (S : Sim M h) (Q : Mid M h g (M 10 1)) : Sim (sMonth M) (hu g 2 0 (M 10 0 + 1)) := by
  have a0 := R.c0
  have a1 := R.c1
  have a3 := R.c3
  have b3 := R1.c3
  have a4 := R.c4
  have a5 := R.c5
  have Sm := Mid_sim R R1 c11 S Q
  obtain ⟨f1, f2, f3, f4, f5⟩ := sFirms_at R h0 (M 10 1).toNat (by omega)
  have en : (((M 10 1).toNat : Nat) : Int) = M 10 1 := Int.toNat_of_nonneg a1.1
  rw [en] at f1 f2
  have fx := f1
  have lo : ∀ x, x < 3000 → sFirms M (M 10 1).toNat 10 x = M 10 x := fun x hx => fx x fun f f0 f1 => by omega
  have s7 := S.2.2.2.2.2.2.1
  obtain ⟨s1, s2, s3, s4, s5, s6, -, s8, s9, s10, s11⟩ := Sm
  have s70 : ∀ f, M 10 1 ≤ f → f < 20 → M 10 (3000 + 50 * f + M 10 0 / 12) = 0 := fun f g1 g2 => by
    rw [s7.2 f (M 10 0 / 12) (by omega) g2 (by omega) (by omega)]
    split
    · rename_i e
      have e2 : (if M 10 0 < 12 * (M 10 0 / 12) + 12 then M 10 0 else 12 * (M 10 0 / 12) + 12) = M 10 0 := if_pos (by omega)
      rw [e2]
      have z := (s7.1 (M 10 0 - 1) (by omega) (by omega)).1
      unfold pPaid
      rw [if_neg (by omega)]
    · rfl
  have s71 : ∀ f, 0 ≤ f → f < 20 → M 10 (3000 + 50 * f + M 10 0 / 12) = if M 10 0 % 12 = 0 then 0 else pPaid h f (M 10 0 - 1) := fun f g1 g2 => by
    rw [s7.2 f (M 10 0 / 12) g1 g2 (by omega) (by omega)]
    have e2 : (if M 10 0 < 12 * (M 10 0 / 12) + 12 then M 10 0 else 12 * (M 10 0 / 12) + 12) = M 10 0 := if_pos (by omega)
    rw [e2]
    by_cases e : M 10 0 % 12 = 0
    · rw [if_pos e, if_neg (by omega)]
    · rw [if_neg e, if_pos (by omega)]
  have e10 : hu M 1 2 (M 1 2 + sSum (sLevy M) (M 10 1).toNat) 10 = M 10 := hu_row (by decide)
  have e11 : hu M 1 2 (M 1 2 + sSum (sLevy M) (M 10 1).toNat) 11 = M 11 := hu_row (by decide)
  rw [e10, hu_eq] at s1
  rw [e11, hu_ni (by decide)] at s2
  rw [e10] at s3 s5
  rw [e11] at s4 s6 s8
  have N1 : ∀ i, sMonth M 1 i = sFirms M (M 10 1).toNat 1 i := fun i => by unfold sMonth; rw [hu_ne (by decide)]
  have Na : ∀ a, a ≠ 1 → a ≠ 10 → sMonth M a = M a := fun a a1 a2 => by unfold sMonth; rw [hu_row a2]; exact f4 a a1 a2
  have N10 : ∀ x, x ≠ 0 → sMonth M 10 x = sFirms M (M 10 1).toNat 10 x := fun x hx => by unfold sMonth; rw [hu_ni hx]
  have N100 : sMonth M 10 0 = M 10 0 + 1 := by unfold sMonth; rw [hu_eq]
  have g2 : ∀ a, a ≠ 2 → hu g 2 0 (M 10 0 + 1) a = g a := fun a ha => hu_row ha
  obtain ⟨q1, q2, q3, q4, q5, q6, q7⟩ := Q
  refine ⟨?_, ?_, ?_, ?_, ?_, ?_, ?_, ?_, ?_, ?_, ?_⟩
  · rw [N1, f3]
    have z : SBn g (sFirms M (M 10 1).toNat) (M 1 2 + sSum (sLevy M) (M 10 1).toNat) := SB_ac (fun x hx => lo x (by omega)) s1
    exact SBn_cnt (k := 0) (v := M 10 0 + 1) (by omega) z
  · rw [Na 11 (by decide) (by decide), N1, f5 3 (by decide)]
    exact SB_fr (g2 3 (by decide)) (fun k _ _ => g2 k (by omega)) (fun k _ _ => g2 k (by omega)) (fun k _ _ => g2 k (by omega)) (fun k _ _ => g2 k (by omega)) s2
  · intro c c0 c1
    rw [N10 3 (by decide), lo 3 (by decide)] at c1
    rw [g2 (200 + c) (by omega)]
    simp (disch := omega) only [N10, lo]
    exact s3 c c0 c1
  · rw [Na 11 (by decide) (by decide)]
    exact SC_fr b3.2 (fun k _ _ => g2 k (by omega)) s4
  · intro r r0 r1
    rw [N10 5 (by decide), lo 5 (by decide)] at r1
    rw [g2 41 (by decide), g2 42 (by decide), g2 43 (by decide)]
    simp (disch := omega) only [N10, lo]
    exact s5 r r0 r1
  · rw [Na 11 (by decide) (by decide)]
    exact SR_fr (g2 41 (by omega)) (g2 42 (by omega)) (g2 43 (by omega)) s6
  · refine SPa_fr (h := g) (g2 50 (by decide)) (g2 51 (by decide)) (g2 52 (by decide)) (g2 53 (by decide)) ?_
    have pp : ∀ f k, 0 ≤ f → f < 20 → 0 ≤ k → k < M 10 0 → pPaid g f k = pPaid h f k := fun f k f0 f1 k0 k1 => by
      unfold pPaid
      rw [q4 k (by omega), (q6 (20 * k + f) (by omega)).2.2]
    refine ⟨fun k k0 k1 => ?_, fun f y f0 f1 y0 y1 => ?_⟩
    · rw [N100] at k1
      rw [N10 1 (by decide), lo 1 (by decide)]
      by_cases ek : k = M 10 0
      · subst ek
        rw [q5]
        refine ⟨⟨a1.1, Int.le_refl _⟩, fun f f0 f1 => ?_⟩
        rw [N10 (16000 + 600 * f + M 10 0) (by omega), N10 (4000 + 600 * f + M 10 0) (by omega), N10 (28000 + 600 * f + M 10 0) (by omega)]
        by_cases hf : f < M 10 1
        · obtain ⟨y1, y2, y3, -⟩ := f2 f f0 hf
          obtain ⟨w1, w2, -⟩ := q7 f f0 hf
          have hb := sHeads_b R f
          rw [y1, y2, y3, w1, w2]
          refine ⟨⟨fun _ => by omega, fun _ => hf⟩, fun _ => ⟨rfl, by omega, ?_⟩⟩
          rw [s71 f f0 f1]
          by_cases e : M 10 0 % 12 = 0
          · rw [if_pos e, if_pos e]
          · rw [if_neg e, if_neg e]; exact pp f (M 10 0 - 1) f0 f1 (by omega) (by omega)
        · have z := Z f (M 10 0) f0 f1 (Int.le_refl _) h0
          rw [fx (16000 + 600 * f + M 10 0) (fun f' a b => by omega), z]
          exact ⟨⟨fun q => absurd q hf, fun q => by omega⟩, fun q => absurd q hf⟩
      · have zz := SPa_eq a0.2 (fun k k0 k1 => q4 k (by omega)) (fun x x0 x1 => q6 x (by omega)) s7
        have z := zz.1 k k0 (by omega)
        refine ⟨z.1, fun f f0 f1 => ?_⟩
        have zf := z.2 f f0 f1
        rw [N10 (16000 + 600 * f + k) (by omega), N10 (4000 + 600 * f + k) (by omega), N10 (28000 + 600 * f + k) (by omega)]
        rw [show sFirms M (M 10 1).toNat 10 (16000 + 600 * f + k) = M 10 (16000 + 600 * f + k) from fx _ fun f' a b => by omega, show sFirms M (M 10 1).toNat 10 (4000 + 600 * f + k) = M 10 (4000 + 600 * f + k) from fx _ fun f' a b => by omega, show sFirms M (M 10 1).toNat 10 (28000 + 600 * f + k) = M 10 (28000 + 600 * f + k) from fx _ fun f' a b => by omega]
        exact zf
    · rw [N10 (3000 + 50 * f + y) (by omega), N100]
      by_cases ey : y = M 10 0 / 12
      · subst ey
        rw [if_pos (by omega), show (if M 10 0 + 1 < 12 * (M 10 0 / 12) + 12 then M 10 0 + 1 else 12 * (M 10 0 / 12) + 12) - 1 = M 10 0 by split <;> omega]
        unfold pPaid
        rw [q5]
        by_cases hf : f < M 10 1
        · rw [if_pos hf, (f2 f f0 hf).2.2.2, (q7 f f0 hf).2.2]
        · rw [if_neg hf, fx _ (fun f' a b => by omega), s70 f (by omega) f1]
      · rw [fx _ (fun f' a b => by omega), s7.2 f y f0 f1 y0 y1]
        by_cases e : 12 * y < M 10 0
        · have e12 : 12 * y + 12 ≤ M 10 0 := by omega
          rw [if_pos e, if_pos (show 12 * y < M 10 0 + 1 by omega), if_neg (show ¬ M 10 0 < 12 * y + 12 by omega), if_neg (show ¬ M 10 0 + 1 < 12 * y + 12 by omega)]
          exact (pp f _ f0 f1 (by omega) (by omega)).symm
        · rw [if_neg e, if_neg (show ¬ 12 * y < M 10 0 + 1 by omega)]
  · rw [Na 11 (by decide) (by decide)]
    exact SPa_fr (g2 50 (by omega)) (g2 51 (by omega)) (g2 52 (by omega)) (g2 53 (by omega)) s8
  · have z := ST_fr (g := hu g 2 0 (M 10 0 + 1)) (by rw [e10]; exact a4.2) (fun k _ _ => g2 k (by omega)) (fun k _ _ => g2 k (by omega)) (fun k _ _ => g2 k (by omega)) s9
    intro t s t0 t1 u0 u1
    rw [N10 4 (by decide), lo 4 (by decide)] at t1
    have y := z t s t0 (by rw [e10]; exact t1) u0 u1
    unfold STc at *
    have eM : ∀ a, a ≠ 1 → hu M 1 2 (M 1 2 + sSum (sLevy M) (M 10 1).toNat) a = M a := fun a ha => hu_row ha
    rw [eM 20 (by decide), eM 21 (by decide), eM 22 (by decide), eM 23 (by decide), eM 24 (by decide)] at y
    rw [Na 20 (by decide) (by decide), Na 21 (by decide) (by decide), Na 22 (by decide) (by decide), Na 23 (by decide) (by decide), Na 24 (by decide) (by decide)]
    exact y
  · exact SW_fr (g2 930 (by omega)) (g2 950 (by omega)) (g2 970 (by omega)) (fun c _ _ => by rw [g2 74 (by omega)]) s10
  · obtain ⟨z1, z2, z3, z4, z5, z6⟩ := s11
    rw [hu_ni (by decide)] at z1 z2 z3 z4 z5
    rw [hu_row (by decide)] at z4
    rw [hu_row (by decide)] at z6
    refine ⟨by rw [g2 6 (by omega), N1, f5 7 (by decide)]; exact z1, by rw [g2 6 (by omega), N1, f5 8 (by decide)]; exact z2, by rw [g2 6 (by omega), N1, f5 9 (by decide)]; exact z3, ?_, ?_, ?_⟩
    · rw [g2 60 (by omega), N1, f5 7 (by decide), Na 16 (by decide) (by decide)]; exact z4
    · rw [g2 7 (by omega), N1, f5 5 (by decide)]; exact z5
    · rw [g2 70 (by omega), g2 71 (by omega), Na 14 (by decide) (by decide)]; exact z6
