/-! what one store does to a board: the class's and the reference's side by side -/
def SBn (h m : jx_H) (fu : Int) : Prop := SB h (m 10) fu 2 20 100 300 500
theorem SBn_cnt {h m : jx_H} {fu k v : Int} (hk : 0 ≤ k ∧ k ≤ 6) (s : SBn h m fu) : SBn (hu h 2 k v) (hu m 10 k v) fu := by
  obtain ⟨⟨c0, c1, c2, c3, c4, c5, c6, c7⟩, b2, b3, b4, b5, b6⟩ := s
  refine ⟨?_, fun t t0 t1 => ?_, fun f f0 f1 => ?_, fun t b t0 t1 b0 b1 => ?_, fun i2 i0 i1 => ?_, fun j2 j0 j1 => ?_⟩
  · unfold SBc
    simp only [hu_at, true_and, and_true, and_self, false_and, and_false, if_true, if_false, Int.reduceEq]
    refine ⟨?_, ?_, ?_, ?_, ?_, ?_, ?_, ?_⟩ <;> (repeat' split) <;> omega
  · have z := b2 t t0 t1
    simp only [hu_at, true_and, and_true, and_self, false_and, and_false, if_true, if_false, Int.reduceEq]
    refine ⟨?_, ?_, ?_, ?_⟩ <;> (repeat' split) <;> omega
  · have z := b3 f f0 f1
    simp only [hu_at, true_and, and_true, and_self, false_and, and_false, if_true, if_false, Int.reduceEq]
    (repeat' split) <;> omega
  · have z := b4 t b t0 t1 b0 b1
    simp only [hu_at, true_and, and_true, and_self, false_and, and_false, if_true, if_false, Int.reduceEq]
    by_cases hb : b < 0
    · rw [if_pos hb] at z ⊢
      (repeat' split) <;> omega
    · rw [if_neg hb] at z ⊢
      (repeat' split) <;> omega
  · obtain ⟨z0, z1, z2, z3, z4⟩ := b5 i2 i0 i1
    simp only [hu_at, true_and, and_true, and_self, false_and, and_false, if_true, if_false, Int.reduceEq]
    refine ⟨?_, ?_, ?_, ?_, ?_⟩ <;> (repeat' split) <;> omega
  · obtain ⟨z0, z1, z2, z3, z4, z5, z6, z7, z8⟩ := b6 j2 j0 j1
    simp only [hu_at, true_and, and_true, and_self, false_and, and_false, if_true, if_false, Int.reduceEq]
    refine ⟨?_, ?_, ?_, ?_, ?_, ?_, ?_, ?_, ?_⟩ <;> (repeat' split) <;> omega
theorem SBn_fund {h m : jx_H} {fu  v : Int}  (s : SBn h m fu) : SBn (hu h 2 7 v) m v := by
  obtain ⟨⟨c0, c1, c2, c3, c4, c5, c6, c7⟩, b2, b3, b4, b5, b6⟩ := s
  refine ⟨?_, fun t t0 t1 => ?_, fun f f0 f1 => ?_, fun t b t0 t1 b0 b1 => ?_, fun i2 i0 i1 => ?_, fun j2 j0 j1 => ?_⟩
  · unfold SBc
    refine ⟨?_, ?_, ?_, ?_, ?_, ?_, ?_, ?_⟩ <;> simp only [hu_at, true_and, and_true, and_self, false_and, and_false, if_true, if_false, Int.reduceEq] <;> (repeat' split) <;> omega
  · have z := b2 t t0 t1
    simp only [hu_at, true_and, and_true, and_self, false_and, and_false, if_true, if_false, Int.reduceEq]
    refine ⟨?_, ?_, ?_, ?_⟩ <;> (repeat' split) <;> omega
  · have z := b3 f f0 f1
    simp only [hu_at, true_and, and_true, and_self, false_and, and_false, if_true, if_false, Int.reduceEq]
    (repeat' split) <;> omega
  · have z := b4 t b t0 t1 b0 b1
    simp only [hu_at, true_and, and_true, and_self, false_and, and_false, if_true, if_false, Int.reduceEq]
    by_cases hb : b < 0
    · rw [if_pos hb] at z ⊢
      (repeat' split) <;> omega
    · rw [if_neg hb] at z ⊢
      (repeat' split) <;> omega
  · obtain ⟨z0, z1, z2, z3, z4⟩ := b5 i2 i0 i1
    simp only [hu_at, true_and, and_true, and_self, false_and, and_false, if_true, if_false, Int.reduceEq]
    refine ⟨?_, ?_, ?_, ?_, ?_⟩ <;> (repeat' split) <;> omega
  · obtain ⟨z0, z1, z2, z3, z4, z5, z6, z7, z8⟩ := b6 j2 j0 j1
    simp only [hu_at, true_and, and_true, and_self, false_and, and_false, if_true, if_false, Int.reduceEq]
    refine ⟨?_, ?_, ?_, ?_, ?_, ?_, ?_, ?_, ?_⟩ <;> (repeat' split) <;> omega
theorem SBn_hand {h m : jx_H} {fu i f v : Int} (hi : 0 ≤ i ∧ i < 60) (hf : 0 ≤ f ∧ f ≤ 4) (s : SBn h m fu) : SBn (hu h (300 + i) f v) (hu m 10 (100 + 6 * i + f) v) fu := by
  obtain ⟨⟨c0, c1, c2, c3, c4, c5, c6, c7⟩, b2, b3, b4, b5, b6⟩ := s
  refine ⟨?_, fun t t0 t1 => ?_, fun f f0 f1 => ?_, fun t b t0 t1 b0 b1 => ?_, fun i2 i0 i1 => ?_, fun j2 j0 j1 => ?_⟩
  · unfold SBc
    simp only [hu_at, true_and, and_true, and_self, false_and, and_false, if_true, if_false, Int.reduceEq]
    refine ⟨?_, ?_, ?_, ?_, ?_, ?_, ?_, ?_⟩ <;> (repeat' split) <;> omega
  · have z := b2 t t0 t1
    simp only [hu_at, true_and, and_true, and_self, false_and, and_false, if_true, if_false, Int.reduceEq]
    refine ⟨?_, ?_, ?_, ?_⟩ <;> (repeat' split) <;> omega
  · have z := b3 f f0 f1
    simp only [hu_at, true_and, and_true, and_self, false_and, and_false, if_true, if_false, Int.reduceEq]
    (repeat' split) <;> omega
  · have z := b4 t b t0 t1 b0 b1
    simp only [hu_at, true_and, and_true, and_self, false_and, and_false, if_true, if_false, Int.reduceEq]
    by_cases hb : b < 0
    · rw [if_pos hb] at z ⊢
      (repeat' split) <;> omega
    · rw [if_neg hb] at z ⊢
      (repeat' split) <;> omega
  · obtain ⟨z0, z1, z2, z3, z4⟩ := b5 i2 i0 i1
    simp only [hu_at, true_and, and_true, and_self, false_and, and_false, if_true, if_false, Int.reduceEq]
    refine ⟨?_, ?_, ?_, ?_, ?_⟩ <;> (repeat' split) <;> omega
  · obtain ⟨z0, z1, z2, z3, z4, z5, z6, z7, z8⟩ := b6 j2 j0 j1
    simp only [hu_at, true_and, and_true, and_self, false_and, and_false, if_true, if_false, Int.reduceEq]
    refine ⟨?_, ?_, ?_, ?_, ?_, ?_, ?_, ?_, ?_⟩ <;> (repeat' split) <;> omega
theorem SBn_trade {h m : jx_H} {fu t k v : Int} (ht : 0 ≤ t ∧ t < 8) (hk : 0 ≤ k ∧ k ≤ 2) (s : SBn h m fu) : SBn (hu h (20 + k) t v) (hu m 10 (50 + 3 * t + k) v) fu := by
  obtain ⟨⟨c0, c1, c2, c3, c4, c5, c6, c7⟩, b2, b3, b4, b5, b6⟩ := s
  refine ⟨?_, fun t t0 t1 => ?_, fun f f0 f1 => ?_, fun t b t0 t1 b0 b1 => ?_, fun i2 i0 i1 => ?_, fun j2 j0 j1 => ?_⟩
  · unfold SBc
    simp only [hu_at, true_and, and_true, and_self, false_and, and_false, if_true, if_false, Int.reduceEq]
    refine ⟨?_, ?_, ?_, ?_, ?_, ?_, ?_, ?_⟩ <;> (repeat' split) <;> omega
  · have z := b2 t t0 t1
    simp only [hu_at, true_and, and_true, and_self, false_and, and_false, if_true, if_false, Int.reduceEq]
    refine ⟨?_, ?_, ?_, ?_⟩ <;> (repeat' split) <;> omega
  · have z := b3 f f0 f1
    simp only [hu_at, true_and, and_true, and_self, false_and, and_false, if_true, if_false, Int.reduceEq]
    (repeat' split) <;> omega
  · have z := b4 t b t0 t1 b0 b1
    simp only [hu_at, true_and, and_true, and_self, false_and, and_false, if_true, if_false, Int.reduceEq]
    by_cases hb : b < 0
    · rw [if_pos hb] at z ⊢
      (repeat' split) <;> omega
    · rw [if_neg hb] at z ⊢
      (repeat' split) <;> omega
  · obtain ⟨z0, z1, z2, z3, z4⟩ := b5 i2 i0 i1
    simp only [hu_at, true_and, and_true, and_self, false_and, and_false, if_true, if_false, Int.reduceEq]
    refine ⟨?_, ?_, ?_, ?_, ?_⟩ <;> (repeat' split) <;> omega
  · obtain ⟨z0, z1, z2, z3, z4, z5, z6, z7, z8⟩ := b6 j2 j0 j1
    simp only [hu_at, true_and, and_true, and_self, false_and, and_false, if_true, if_false, Int.reduceEq]
    refine ⟨?_, ?_, ?_, ?_, ?_, ?_, ?_, ?_, ?_⟩ <;> (repeat' split) <;> omega
theorem SBn_life {h m : jx_H} {fu p v : Int} (hp : 0 ≤ p ∧ p < 8) (s : SBn h m fu) : SBn (hu h 23 p v) (hu m 10 (80 + p) v) fu := by
  obtain ⟨⟨c0, c1, c2, c3, c4, c5, c6, c7⟩, b2, b3, b4, b5, b6⟩ := s
  refine ⟨?_, fun t t0 t1 => ?_, fun f f0 f1 => ?_, fun t b t0 t1 b0 b1 => ?_, fun i2 i0 i1 => ?_, fun j2 j0 j1 => ?_⟩
  · unfold SBc
    simp only [hu_at, true_and, and_true, and_self, false_and, and_false, if_true, if_false, Int.reduceEq]
    refine ⟨?_, ?_, ?_, ?_, ?_, ?_, ?_, ?_⟩ <;> (repeat' split) <;> omega
  · have z := b2 t t0 t1
    simp only [hu_at, true_and, and_true, and_self, false_and, and_false, if_true, if_false, Int.reduceEq]
    refine ⟨?_, ?_, ?_, ?_⟩ <;> (repeat' split) <;> omega
  · have z := b3 f f0 f1
    simp only [hu_at, true_and, and_true, and_self, false_and, and_false, if_true, if_false, Int.reduceEq]
    (repeat' split) <;> omega
  · have z := b4 t b t0 t1 b0 b1
    simp only [hu_at, true_and, and_true, and_self, false_and, and_false, if_true, if_false, Int.reduceEq]
    by_cases hb : b < 0
    · rw [if_pos hb] at z ⊢
      (repeat' split) <;> omega
    · rw [if_neg hb] at z ⊢
      (repeat' split) <;> omega
  · obtain ⟨z0, z1, z2, z3, z4⟩ := b5 i2 i0 i1
    simp only [hu_at, true_and, and_true, and_self, false_and, and_false, if_true, if_false, Int.reduceEq]
    refine ⟨?_, ?_, ?_, ?_, ?_⟩ <;> (repeat' split) <;> omega
  · obtain ⟨z0, z1, z2, z3, z4, z5, z6, z7, z8⟩ := b6 j2 j0 j1
    simp only [hu_at, true_and, and_true, and_self, false_and, and_false, if_true, if_false, Int.reduceEq]
    refine ⟨?_, ?_, ?_, ?_, ?_, ?_, ?_, ?_, ?_⟩ <;> (repeat' split) <;> omega
theorem SBn_result {h m : jx_H} {fu f v : Int} (hf : 0 ≤ f ∧ f < 20) (s : SBn h m fu) : SBn (hu h 24 f v) (hu m 10 (2300 + f) v) fu := by
  obtain ⟨⟨c0, c1, c2, c3, c4, c5, c6, c7⟩, b2, b3, b4, b5, b6⟩ := s
  refine ⟨?_, fun t t0 t1 => ?_, fun f f0 f1 => ?_, fun t b t0 t1 b0 b1 => ?_, fun i2 i0 i1 => ?_, fun j2 j0 j1 => ?_⟩
  · unfold SBc
    simp only [hu_at, true_and, and_true, and_self, false_and, and_false, if_true, if_false, Int.reduceEq]
    refine ⟨?_, ?_, ?_, ?_, ?_, ?_, ?_, ?_⟩ <;> (repeat' split) <;> omega
  · have z := b2 t t0 t1
    simp only [hu_at, true_and, and_true, and_self, false_and, and_false, if_true, if_false, Int.reduceEq]
    refine ⟨?_, ?_, ?_, ?_⟩ <;> (repeat' split) <;> omega
  · have z := b3 f f0 f1
    simp only [hu_at, true_and, and_true, and_self, false_and, and_false, if_true, if_false, Int.reduceEq]
    (repeat' split) <;> omega
  · have z := b4 t b t0 t1 b0 b1
    simp only [hu_at, true_and, and_true, and_self, false_and, and_false, if_true, if_false, Int.reduceEq]
    by_cases hb : b < 0
    · rw [if_pos hb] at z ⊢
      (repeat' split) <;> omega
    · rw [if_neg hb] at z ⊢
      (repeat' split) <;> omega
  · obtain ⟨z0, z1, z2, z3, z4⟩ := b5 i2 i0 i1
    simp only [hu_at, true_and, and_true, and_self, false_and, and_false, if_true, if_false, Int.reduceEq]
    refine ⟨?_, ?_, ?_, ?_, ?_⟩ <;> (repeat' split) <;> omega
  · obtain ⟨z0, z1, z2, z3, z4, z5, z6, z7, z8⟩ := b6 j2 j0 j1
    simp only [hu_at, true_and, and_true, and_self, false_and, and_false, if_true, if_false, Int.reduceEq]
    refine ⟨?_, ?_, ?_, ?_, ?_, ?_, ?_, ?_, ?_⟩ <;> (repeat' split) <;> omega
theorem SBn_owed {h m : jx_H} {fu t b v : Int} (ht : 0 ≤ t ∧ t < 20) (hb : -1 ≤ b ∧ b < 20) (s : SBn h m fu) : SBn (hu h (100 + t) (b + 1) v) (hu m 10 (2400 + 21 * t + (if b < 0 then 20 else b)) v) fu := by
  obtain ⟨⟨c0, c1, c2, c3, c4, c5, c6, c7⟩, b2, b3, b4, b5, b6⟩ := s
  refine ⟨?_, fun t t0 t1 => ?_, fun f f0 f1 => ?_, fun t b t0 t1 b0 b1 => ?_, fun i2 i0 i1 => ?_, fun j2 j0 j1 => ?_⟩
  · unfold SBc
    simp only [hu_at, true_and, and_true, and_self, false_and, and_false, if_true, if_false, Int.reduceEq]
    refine ⟨?_, ?_, ?_, ?_, ?_, ?_, ?_, ?_⟩ <;> (repeat' split) <;> omega
  · have z := b2 t t0 t1
    simp only [hu_at, true_and, and_true, and_self, false_and, and_false, if_true, if_false, Int.reduceEq]
    refine ⟨?_, ?_, ?_, ?_⟩ <;> (repeat' split) <;> omega
  · have z := b3 f f0 f1
    simp only [hu_at, true_and, and_true, and_self, false_and, and_false, if_true, if_false, Int.reduceEq]
    (repeat' split) <;> omega
  · have z := b4 t b t0 t1 b0 b1
    simp only [hu_at, true_and, and_true, and_self, false_and, and_false, if_true, if_false, Int.reduceEq]
    by_cases hb : b < 0
    · rw [if_pos hb] at z ⊢
      (repeat' split) <;> omega
    · rw [if_neg hb] at z ⊢
      (repeat' split) <;> omega
  · obtain ⟨z0, z1, z2, z3, z4⟩ := b5 i2 i0 i1
    simp only [hu_at, true_and, and_true, and_self, false_and, and_false, if_true, if_false, Int.reduceEq]
    refine ⟨?_, ?_, ?_, ?_, ?_⟩ <;> (repeat' split) <;> omega
  · obtain ⟨z0, z1, z2, z3, z4, z5, z6, z7, z8⟩ := b6 j2 j0 j1
    simp only [hu_at, true_and, and_true, and_self, false_and, and_false, if_true, if_false, Int.reduceEq]
    refine ⟨?_, ?_, ?_, ?_, ?_, ?_, ?_, ?_, ?_⟩ <;> (repeat' split) <;> omega
theorem SBn_join0 {h m : jx_H} {fu j v : Int} (hj : 0 ≤ j ∧ j < 120) (s : SBn h m fu) : SBn (hu h (500 + j) 0 v) (hu m 10 (1000 + 10 * j) v) fu := by
  obtain ⟨⟨c0, c1, c2, c3, c4, c5, c6, c7⟩, b2, b3, b4, b5, b6⟩ := s
  refine ⟨?_, fun t t0 t1 => ?_, fun f f0 f1 => ?_, fun t b t0 t1 b0 b1 => ?_, fun i2 i0 i1 => ?_, fun j2 j0 j1 => ?_⟩
  · unfold SBc
    simp only [hu_at, true_and, and_true, and_self, false_and, and_false, if_true, if_false, Int.reduceEq]
    refine ⟨?_, ?_, ?_, ?_, ?_, ?_, ?_, ?_⟩ <;> (repeat' split) <;> omega
  · have z := b2 t t0 t1
    simp only [hu_at, true_and, and_true, and_self, false_and, and_false, if_true, if_false, Int.reduceEq]
    refine ⟨?_, ?_, ?_, ?_⟩ <;> (repeat' split) <;> omega
  · have z := b3 f f0 f1
    simp only [hu_at, true_and, and_true, and_self, false_and, and_false, if_true, if_false, Int.reduceEq]
    (repeat' split) <;> omega
  · have z := b4 t b t0 t1 b0 b1
    simp only [hu_at, true_and, and_true, and_self, false_and, and_false, if_true, if_false, Int.reduceEq]
    by_cases hb : b < 0
    · rw [if_pos hb] at z ⊢
      (repeat' split) <;> omega
    · rw [if_neg hb] at z ⊢
      (repeat' split) <;> omega
  · obtain ⟨z0, z1, z2, z3, z4⟩ := b5 i2 i0 i1
    simp only [hu_at, true_and, and_true, and_self, false_and, and_false, if_true, if_false, Int.reduceEq]
    refine ⟨?_, ?_, ?_, ?_, ?_⟩ <;> (repeat' split) <;> omega
  · obtain ⟨z0, z1, z2, z3, z4, z5, z6, z7, z8⟩ := b6 j2 j0 j1
    simp only [hu_at, true_and, and_true, and_self, false_and, and_false, if_true, if_false, Int.reduceEq]
    refine ⟨?_, ?_, ?_, ?_, ?_, ?_, ?_, ?_, ?_⟩ <;> (repeat' split) <;> omega
theorem SBn_join1 {h m : jx_H} {fu j v : Int} (hj : 0 ≤ j ∧ j < 120) (s : SBn h m fu) : SBn (hu h (500 + j) 1 v) (hu m 10 (1000 + 10 * j + 1) v) fu := by
  obtain ⟨⟨c0, c1, c2, c3, c4, c5, c6, c7⟩, b2, b3, b4, b5, b6⟩ := s
  refine ⟨?_, fun t t0 t1 => ?_, fun f f0 f1 => ?_, fun t b t0 t1 b0 b1 => ?_, fun i2 i0 i1 => ?_, fun j2 j0 j1 => ?_⟩
  · unfold SBc
    simp only [hu_at, true_and, and_true, and_self, false_and, and_false, if_true, if_false, Int.reduceEq]
    refine ⟨?_, ?_, ?_, ?_, ?_, ?_, ?_, ?_⟩ <;> (repeat' split) <;> omega
  · have z := b2 t t0 t1
    simp only [hu_at, true_and, and_true, and_self, false_and, and_false, if_true, if_false, Int.reduceEq]
    refine ⟨?_, ?_, ?_, ?_⟩ <;> (repeat' split) <;> omega
  · have z := b3 f f0 f1
    simp only [hu_at, true_and, and_true, and_self, false_and, and_false, if_true, if_false, Int.reduceEq]
    (repeat' split) <;> omega
  · have z := b4 t b t0 t1 b0 b1
    simp only [hu_at, true_and, and_true, and_self, false_and, and_false, if_true, if_false, Int.reduceEq]
    by_cases hb : b < 0
    · rw [if_pos hb] at z ⊢
      (repeat' split) <;> omega
    · rw [if_neg hb] at z ⊢
      (repeat' split) <;> omega
  · obtain ⟨z0, z1, z2, z3, z4⟩ := b5 i2 i0 i1
    simp only [hu_at, true_and, and_true, and_self, false_and, and_false, if_true, if_false, Int.reduceEq]
    refine ⟨?_, ?_, ?_, ?_, ?_⟩ <;> (repeat' split) <;> omega
  · obtain ⟨z0, z1, z2, z3, z4, z5, z6, z7, z8⟩ := b6 j2 j0 j1
    simp only [hu_at, true_and, and_true, and_self, false_and, and_false, if_true, if_false, Int.reduceEq]
    refine ⟨?_, ?_, ?_, ?_, ?_, ?_, ?_, ?_, ?_⟩ <;> (repeat' split) <;> omega
theorem SBn_join2 {h m : jx_H} {fu j v : Int} (hj : 0 ≤ j ∧ j < 120) (s : SBn h m fu) : SBn (hu h (500 + j) 2 v) (hu m 10 (1000 + 10 * j + 2) v) fu := by
  obtain ⟨⟨c0, c1, c2, c3, c4, c5, c6, c7⟩, b2, b3, b4, b5, b6⟩ := s
  refine ⟨?_, fun t t0 t1 => ?_, fun f f0 f1 => ?_, fun t b t0 t1 b0 b1 => ?_, fun i2 i0 i1 => ?_, fun j2 j0 j1 => ?_⟩
  · unfold SBc
    simp only [hu_at, true_and, and_true, and_self, false_and, and_false, if_true, if_false, Int.reduceEq]
    refine ⟨?_, ?_, ?_, ?_, ?_, ?_, ?_, ?_⟩ <;> (repeat' split) <;> omega
  · have z := b2 t t0 t1
    simp only [hu_at, true_and, and_true, and_self, false_and, and_false, if_true, if_false, Int.reduceEq]
    refine ⟨?_, ?_, ?_, ?_⟩ <;> (repeat' split) <;> omega
  · have z := b3 f f0 f1
    simp only [hu_at, true_and, and_true, and_self, false_and, and_false, if_true, if_false, Int.reduceEq]
    (repeat' split) <;> omega
  · have z := b4 t b t0 t1 b0 b1
    simp only [hu_at, true_and, and_true, and_self, false_and, and_false, if_true, if_false, Int.reduceEq]
    by_cases hb : b < 0
    · rw [if_pos hb] at z ⊢
      (repeat' split) <;> omega
    · rw [if_neg hb] at z ⊢
      (repeat' split) <;> omega
  · obtain ⟨z0, z1, z2, z3, z4⟩ := b5 i2 i0 i1
    simp only [hu_at, true_and, and_true, and_self, false_and, and_false, if_true, if_false, Int.reduceEq]
    refine ⟨?_, ?_, ?_, ?_, ?_⟩ <;> (repeat' split) <;> omega
  · obtain ⟨z0, z1, z2, z3, z4, z5, z6, z7, z8⟩ := b6 j2 j0 j1
    simp only [hu_at, true_and, and_true, and_self, false_and, and_false, if_true, if_false, Int.reduceEq]
    refine ⟨?_, ?_, ?_, ?_, ?_, ?_, ?_, ?_, ?_⟩ <;> (repeat' split) <;> omega
theorem SBn_join3 {h m : jx_H} {fu j v : Int} (hj : 0 ≤ j ∧ j < 120) (s : SBn h m fu) : SBn (hu h (500 + j) 3 v) (hu m 10 (1000 + 10 * j + 7) v) fu := by
  obtain ⟨⟨c0, c1, c2, c3, c4, c5, c6, c7⟩, b2, b3, b4, b5, b6⟩ := s
  refine ⟨?_, fun t t0 t1 => ?_, fun f f0 f1 => ?_, fun t b t0 t1 b0 b1 => ?_, fun i2 i0 i1 => ?_, fun j2 j0 j1 => ?_⟩
  · unfold SBc
    simp only [hu_at, true_and, and_true, and_self, false_and, and_false, if_true, if_false, Int.reduceEq]
    refine ⟨?_, ?_, ?_, ?_, ?_, ?_, ?_, ?_⟩ <;> (repeat' split) <;> omega
  · have z := b2 t t0 t1
    simp only [hu_at, true_and, and_true, and_self, false_and, and_false, if_true, if_false, Int.reduceEq]
    refine ⟨?_, ?_, ?_, ?_⟩ <;> (repeat' split) <;> omega
  · have z := b3 f f0 f1
    simp only [hu_at, true_and, and_true, and_self, false_and, and_false, if_true, if_false, Int.reduceEq]
    (repeat' split) <;> omega
  · have z := b4 t b t0 t1 b0 b1
    simp only [hu_at, true_and, and_true, and_self, false_and, and_false, if_true, if_false, Int.reduceEq]
    by_cases hb : b < 0
    · rw [if_pos hb] at z ⊢
      (repeat' split) <;> omega
    · rw [if_neg hb] at z ⊢
      (repeat' split) <;> omega
  · obtain ⟨z0, z1, z2, z3, z4⟩ := b5 i2 i0 i1
    simp only [hu_at, true_and, and_true, and_self, false_and, and_false, if_true, if_false, Int.reduceEq]
    refine ⟨?_, ?_, ?_, ?_, ?_⟩ <;> (repeat' split) <;> omega
  · obtain ⟨z0, z1, z2, z3, z4, z5, z6, z7, z8⟩ := b6 j2 j0 j1
    simp only [hu_at, true_and, and_true, and_self, false_and, and_false, if_true, if_false, Int.reduceEq]
    refine ⟨?_, ?_, ?_, ?_, ?_, ?_, ?_, ?_, ?_⟩ <;> (repeat' split) <;> omega
theorem SBn_join4 {h m : jx_H} {fu j v : Int} (hj : 0 ≤ j ∧ j < 120) (s : SBn h m fu) : SBn (hu h (500 + j) 4 v) (hu m 10 (1000 + 10 * j + 3) v) fu := by
  obtain ⟨⟨c0, c1, c2, c3, c4, c5, c6, c7⟩, b2, b3, b4, b5, b6⟩ := s
  refine ⟨?_, fun t t0 t1 => ?_, fun f f0 f1 => ?_, fun t b t0 t1 b0 b1 => ?_, fun i2 i0 i1 => ?_, fun j2 j0 j1 => ?_⟩
  · unfold SBc
    simp only [hu_at, true_and, and_true, and_self, false_and, and_false, if_true, if_false, Int.reduceEq]
    refine ⟨?_, ?_, ?_, ?_, ?_, ?_, ?_, ?_⟩ <;> (repeat' split) <;> omega
  · have z := b2 t t0 t1
    simp only [hu_at, true_and, and_true, and_self, false_and, and_false, if_true, if_false, Int.reduceEq]
    refine ⟨?_, ?_, ?_, ?_⟩ <;> (repeat' split) <;> omega
  · have z := b3 f f0 f1
    simp only [hu_at, true_and, and_true, and_self, false_and, and_false, if_true, if_false, Int.reduceEq]
    (repeat' split) <;> omega
  · have z := b4 t b t0 t1 b0 b1
    simp only [hu_at, true_and, and_true, and_self, false_and, and_false, if_true, if_false, Int.reduceEq]
    by_cases hb : b < 0
    · rw [if_pos hb] at z ⊢
      (repeat' split) <;> omega
    · rw [if_neg hb] at z ⊢
      (repeat' split) <;> omega
  · obtain ⟨z0, z1, z2, z3, z4⟩ := b5 i2 i0 i1
    simp only [hu_at, true_and, and_true, and_self, false_and, and_false, if_true, if_false, Int.reduceEq]
    refine ⟨?_, ?_, ?_, ?_, ?_⟩ <;> (repeat' split) <;> omega
  · obtain ⟨z0, z1, z2, z3, z4, z5, z6, z7, z8⟩ := b6 j2 j0 j1
    simp only [hu_at, true_and, and_true, and_self, false_and, and_false, if_true, if_false, Int.reduceEq]
    refine ⟨?_, ?_, ?_, ?_, ?_, ?_, ?_, ?_, ?_⟩ <;> (repeat' split) <;> omega
theorem SBn_join5 {h m : jx_H} {fu j v : Int} (hj : 0 ≤ j ∧ j < 120) (s : SBn h m fu) : SBn (hu h (500 + j) 5 v) (hu m 10 (1000 + 10 * j + 4) v) fu := by
  obtain ⟨⟨c0, c1, c2, c3, c4, c5, c6, c7⟩, b2, b3, b4, b5, b6⟩ := s
  refine ⟨?_, fun t t0 t1 => ?_, fun f f0 f1 => ?_, fun t b t0 t1 b0 b1 => ?_, fun i2 i0 i1 => ?_, fun j2 j0 j1 => ?_⟩
  · unfold SBc
    simp only [hu_at, true_and, and_true, and_self, false_and, and_false, if_true, if_false, Int.reduceEq]
    refine ⟨?_, ?_, ?_, ?_, ?_, ?_, ?_, ?_⟩ <;> (repeat' split) <;> omega
  · have z := b2 t t0 t1
    simp only [hu_at, true_and, and_true, and_self, false_and, and_false, if_true, if_false, Int.reduceEq]
    refine ⟨?_, ?_, ?_, ?_⟩ <;> (repeat' split) <;> omega
  · have z := b3 f f0 f1
    simp only [hu_at, true_and, and_true, and_self, false_and, and_false, if_true, if_false, Int.reduceEq]
    (repeat' split) <;> omega
  · have z := b4 t b t0 t1 b0 b1
    simp only [hu_at, true_and, and_true, and_self, false_and, and_false, if_true, if_false, Int.reduceEq]
    by_cases hb : b < 0
    · rw [if_pos hb] at z ⊢
      (repeat' split) <;> omega
    · rw [if_neg hb] at z ⊢
      (repeat' split) <;> omega
  · obtain ⟨z0, z1, z2, z3, z4⟩ := b5 i2 i0 i1
    simp only [hu_at, true_and, and_true, and_self, false_and, and_false, if_true, if_false, Int.reduceEq]
    refine ⟨?_, ?_, ?_, ?_, ?_⟩ <;> (repeat' split) <;> omega
  · obtain ⟨z0, z1, z2, z3, z4, z5, z6, z7, z8⟩ := b6 j2 j0 j1
    simp only [hu_at, true_and, and_true, and_self, false_and, and_false, if_true, if_false, Int.reduceEq]
    refine ⟨?_, ?_, ?_, ?_, ?_, ?_, ?_, ?_, ?_⟩ <;> (repeat' split) <;> omega
theorem SBn_join6 {h m : jx_H} {fu j v : Int} (hj : 0 ≤ j ∧ j < 120) (s : SBn h m fu) : SBn (hu h (500 + j) 6 v) (hu m 10 (1000 + 10 * j + 5) v) fu := by
  obtain ⟨⟨c0, c1, c2, c3, c4, c5, c6, c7⟩, b2, b3, b4, b5, b6⟩ := s
  refine ⟨?_, fun t t0 t1 => ?_, fun f f0 f1 => ?_, fun t b t0 t1 b0 b1 => ?_, fun i2 i0 i1 => ?_, fun j2 j0 j1 => ?_⟩
  · unfold SBc
    simp only [hu_at, true_and, and_true, and_self, false_and, and_false, if_true, if_false, Int.reduceEq]
    refine ⟨?_, ?_, ?_, ?_, ?_, ?_, ?_, ?_⟩ <;> (repeat' split) <;> omega
  · have z := b2 t t0 t1
    simp only [hu_at, true_and, and_true, and_self, false_and, and_false, if_true, if_false, Int.reduceEq]
    refine ⟨?_, ?_, ?_, ?_⟩ <;> (repeat' split) <;> omega
  · have z := b3 f f0 f1
    simp only [hu_at, true_and, and_true, and_self, false_and, and_false, if_true, if_false, Int.reduceEq]
    (repeat' split) <;> omega
  · have z := b4 t b t0 t1 b0 b1
    simp only [hu_at, true_and, and_true, and_self, false_and, and_false, if_true, if_false, Int.reduceEq]
    by_cases hb : b < 0
    · rw [if_pos hb] at z ⊢
      (repeat' split) <;> omega
    · rw [if_neg hb] at z ⊢
      (repeat' split) <;> omega
  · obtain ⟨z0, z1, z2, z3, z4⟩ := b5 i2 i0 i1
    simp only [hu_at, true_and, and_true, and_self, false_and, and_false, if_true, if_false, Int.reduceEq]
    refine ⟨?_, ?_, ?_, ?_, ?_⟩ <;> (repeat' split) <;> omega
  · obtain ⟨z0, z1, z2, z3, z4, z5, z6, z7, z8⟩ := b6 j2 j0 j1
    simp only [hu_at, true_and, and_true, and_self, false_and, and_false, if_true, if_false, Int.reduceEq]
    refine ⟨?_, ?_, ?_, ?_, ?_, ?_, ?_, ?_, ?_⟩ <;> (repeat' split) <;> omega
theorem SBn_join7 {h m : jx_H} {fu j v : Int} (hj : 0 ≤ j ∧ j < 120) (s : SBn h m fu) : SBn (hu h (500 + j) 7 v) (hu m 10 (1000 + 10 * j + 6) v) fu := by
  obtain ⟨⟨c0, c1, c2, c3, c4, c5, c6, c7⟩, b2, b3, b4, b5, b6⟩ := s
  refine ⟨?_, fun t t0 t1 => ?_, fun f f0 f1 => ?_, fun t b t0 t1 b0 b1 => ?_, fun i2 i0 i1 => ?_, fun j2 j0 j1 => ?_⟩
  · unfold SBc
    simp only [hu_at, true_and, and_true, and_self, false_and, and_false, if_true, if_false, Int.reduceEq]
    refine ⟨?_, ?_, ?_, ?_, ?_, ?_, ?_, ?_⟩ <;> (repeat' split) <;> omega
  · have z := b2 t t0 t1
    simp only [hu_at, true_and, and_true, and_self, false_and, and_false, if_true, if_false, Int.reduceEq]
    refine ⟨?_, ?_, ?_, ?_⟩ <;> (repeat' split) <;> omega
  · have z := b3 f f0 f1
    simp only [hu_at, true_and, and_true, and_self, false_and, and_false, if_true, if_false, Int.reduceEq]
    (repeat' split) <;> omega
  · have z := b4 t b t0 t1 b0 b1
    simp only [hu_at, true_and, and_true, and_self, false_and, and_false, if_true, if_false, Int.reduceEq]
    by_cases hb : b < 0
    · rw [if_pos hb] at z ⊢
      (repeat' split) <;> omega
    · rw [if_neg hb] at z ⊢
      (repeat' split) <;> omega
  · obtain ⟨z0, z1, z2, z3, z4⟩ := b5 i2 i0 i1
    simp only [hu_at, true_and, and_true, and_self, false_and, and_false, if_true, if_false, Int.reduceEq]
    refine ⟨?_, ?_, ?_, ?_, ?_⟩ <;> (repeat' split) <;> omega
  · obtain ⟨z0, z1, z2, z3, z4, z5, z6, z7, z8⟩ := b6 j2 j0 j1
    simp only [hu_at, true_and, and_true, and_self, false_and, and_false, if_true, if_false, Int.reduceEq]
    refine ⟨?_, ?_, ?_, ?_, ?_, ?_, ?_, ?_, ?_⟩ <;> (repeat' split) <;> omega
theorem SBn_join8 {h m : jx_H} {fu j v : Int} (hj : 0 ≤ j ∧ j < 120) (s : SBn h m fu) : SBn (hu h (500 + j) 8 v) (hu m 10 (1000 + 10 * j + 8) v) fu := by
  obtain ⟨⟨c0, c1, c2, c3, c4, c5, c6, c7⟩, b2, b3, b4, b5, b6⟩ := s
  refine ⟨?_, fun t t0 t1 => ?_, fun f f0 f1 => ?_, fun t b t0 t1 b0 b1 => ?_, fun i2 i0 i1 => ?_, fun j2 j0 j1 => ?_⟩
  · unfold SBc
    simp only [hu_at, true_and, and_true, and_self, false_and, and_false, if_true, if_false, Int.reduceEq]
    refine ⟨?_, ?_, ?_, ?_, ?_, ?_, ?_, ?_⟩ <;> (repeat' split) <;> omega
  · have z := b2 t t0 t1
    simp only [hu_at, true_and, and_true, and_self, false_and, and_false, if_true, if_false, Int.reduceEq]
    refine ⟨?_, ?_, ?_, ?_⟩ <;> (repeat' split) <;> omega
  · have z := b3 f f0 f1
    simp only [hu_at, true_and, and_true, and_self, false_and, and_false, if_true, if_false, Int.reduceEq]
    (repeat' split) <;> omega
  · have z := b4 t b t0 t1 b0 b1
    simp only [hu_at, true_and, and_true, and_self, false_and, and_false, if_true, if_false, Int.reduceEq]
    by_cases hb : b < 0
    · rw [if_pos hb] at z ⊢
      (repeat' split) <;> omega
    · rw [if_neg hb] at z ⊢
      (repeat' split) <;> omega
  · obtain ⟨z0, z1, z2, z3, z4⟩ := b5 i2 i0 i1
    simp only [hu_at, true_and, and_true, and_self, false_and, and_false, if_true, if_false, Int.reduceEq]
    refine ⟨?_, ?_, ?_, ?_, ?_⟩ <;> (repeat' split) <;> omega
  · obtain ⟨z0, z1, z2, z3, z4, z5, z6, z7, z8⟩ := b6 j2 j0 j1
    simp only [hu_at, true_and, and_true, and_self, false_and, and_false, if_true, if_false, Int.reduceEq]
    refine ⟨?_, ?_, ?_, ?_, ?_, ?_, ?_, ?_, ?_⟩ <;> (repeat' split) <;> omega
/-- a board that alone has changed -/
theorem Sim_board {m m2 h g : jx_H} (R : RA (m 10)) (R1 : RA (m 11)) (S : Sim m h) (B : SBn g m2 (m2 1 2)) (hr : ∀ a, a ≠ 10 → a ≠ 1 → m2 a = m a) (h1 : ∀ i, i ≠ 2 → m2 1 i = m 1 i) (ha : ∀ x, (x = 0 ∨ x = 3 ∨ x = 4 ∨ x = 5 ∨ (500 ≤ x ∧ x < 1000) ∨ 3000 ≤ x) → m2 10 x = m 10 x) (h01 : m 10 1 ≤ m2 10 1) (hg : ∀ k, ¬ (k = 2 ∨ (20 ≤ k ∧ k ≤ 24) ∨ (100 ≤ k ∧ k < 120) ∨ (300 ≤ k ∧ k < 360) ∨ (500 ≤ k ∧ k < 620)) → g k = h k) : Sim m2 g := by
  have a3 := R.c3
  have a5 := R.c5
  have b3 := R1.c3
  have a4 := R.c4
  obtain ⟨s1, s2, s3, s4, s5, s6, s7, s8, s9, s10, s11⟩ := S
  have e11 : m2 11 = m 11 := hr 11 (by decide) (by decide)
  have q0 : m2 10 0 = m 10 0 := ha 0 (by omega)
  have q3 : m2 10 3 = m 10 3 := ha 3 (by omega)
  have q4 : m2 10 4 = m 10 4 := ha 4 (by omega)
  have q5 : m2 10 5 = m 10 5 := ha 5 (by omega)
  refine ⟨B, ?_, ?_, ?_, ?_, ?_, ?_, ?_, ?_, ?_, ?_⟩
  · rw [e11, h1 3 (by decide)]
    exact SB_fr (hg 3 (by omega)) (fun k _ _ => hg k (by omega)) (fun k _ _ => hg k (by omega)) (fun k _ _ => hg k (by omega)) (fun k _ _ => hg k (by omega)) s2
  · intro c c0 c1
    rw [q3] at c1
    have z := s3 c c0 c1
    rw [hg (200 + c) (by omega), ha (500 + 9 * c) (by omega), ha (500 + 9 * c + 1) (by omega), ha (500 + 9 * c + 2) (by omega), ha (500 + 9 * c + 3) (by omega), ha (500 + 9 * c + 4) (by omega), ha (500 + 9 * c + 5) (by omega), ha (500 + 9 * c + 6) (by omega), ha (500 + 9 * c + 7) (by omega), ha (500 + 9 * c + 8) (by omega)]
    exact z
  · rw [e11]; exact SC_fr b3.2 (fun k _ _ => hg k (by omega)) s4
  · intro r r0 r1
    rw [q5] at r1
    have z := s5 r r0 r1
    rw [hg 41 (by omega), hg 42 (by omega), hg 43 (by omega), ha (800 + 3 * r) (by omega), ha (800 + 3 * r + 1) (by omega), ha (800 + 3 * r + 2) (by omega)]
    exact z
  · rw [e11]; exact SR_fr (hg 41 (by omega)) (hg 42 (by omega)) (hg 43 (by omega)) s6
  · have z := SPa_fr (hg 50 (by omega)) (hg 51 (by omega)) (hg 52 (by omega)) (hg 53 (by omega)) s7
    refine ⟨fun k k0 k1 => ?_, fun f y f0 f1 y0 y1 => ?_⟩
    · rw [q0] at k1
      have y := z.1 k k0 k1
      refine ⟨⟨y.1.1, by omega⟩, fun f f0 f1 => ?_⟩
      rw [ha (16000 + 600 * f + k) (by omega), ha (4000 + 600 * f + k) (by omega), ha (28000 + 600 * f + k) (by omega)]
      exact y.2 f f0 f1
    · rw [ha (3000 + 50 * f + y) (by omega), q0]; exact z.2 f y f0 f1 y0 y1
  · rw [e11]; exact SPa_fr (hg 50 (by omega)) (hg 51 (by omega)) (hg 52 (by omega)) (hg 53 (by omega)) s8
  · have z := ST_fr a4.2 (fun k _ _ => hg k (by omega)) (fun k _ _ => hg k (by omega)) (fun k _ _ => hg k (by omega)) s9
    intro t s t0 t1 u0 u1
    rw [q4] at t1
    have y := z t s t0 t1 u0 u1
    unfold STc at *
    rw [hr 20 (by decide) (by decide), hr 21 (by decide) (by decide), hr 22 (by decide) (by decide), hr 23 (by decide) (by decide), hr 24 (by decide) (by decide)]
    exact y
  · exact SW_fr (hg 930 (by omega)) (hg 950 (by omega)) (hg 970 (by omega)) (fun c _ _ => by rw [hg 74 (by omega)]) s10
  · obtain ⟨z1, z2, z3, z4, z5, z6⟩ := s11
    refine ⟨by rw [hg 6 (by omega), h1 7 (by decide)]; exact z1, by rw [hg 6 (by omega), h1 8 (by decide)]; exact z2, by rw [hg 6 (by omega), h1 9 (by decide)]; exact z3, ?_, ?_, ?_⟩
    · rw [hg 60 (by omega), h1 7 (by decide), hr 16 (by decide) (by decide)]; exact z4
    · rw [hg 7 (by omega), h1 5 (by decide)]; exact z5
    · rw [hg 70 (by omega), hg 71 (by omega), hr 14 (by decide) (by decide)]; exact z6
