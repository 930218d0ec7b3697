/-! a word is spelt there where its letters give its number -/
def wdB : List Int := [109, 101, 109, 98, 101, 114, 32, 108, 101, 118, 121, 32, 32, 32, 98, 97, 99, 107, 32, 32, 32, 115, 116, 97, 121, 32, 32, 32, 99, 97, 112, 32, 32, 32, 32, 112, 114, 111, 111, 102, 32, 32, 109, 97, 114, 107, 32, 32, 32, 119, 97, 103, 101, 115, 32, 32, 104, 101, 97, 100, 115, 32, 32, 112, 97, 105, 100, 32, 32, 32, 109, 111, 110, 116, 104, 32, 32, 104, 111, 117, 114, 115, 32, 32, 112, 114, 105, 99, 101, 32, 32, 97, 103, 101, 32, 32, 32, 32, 116, 114, 97, 100, 101, 32, 32, 108, 97, 99, 107, 32, 32, 32, 111, 114, 32, 32, 32, 32, 32, 97, 110, 100, 32, 32, 32, 32, 110, 111, 116, 32, 32, 32, 32, 109, 105, 110, 32, 32, 32, 32, 109, 97, 120, 32, 32, 32, 32]
def wB (i : Nat) : Int := wdB.getD i 0
theorem spw_0 {f : Int → Int} {a : Int} {z : Nat} (hz : 1 ≤ z ∧ z ≤ 6) (hl : ∀ j : Nat, j < z → 65 ≤ f (a + (j : Int)) ∧ f (a + (j : Int)) ≤ 122) : (wB (0 + z) = 32 ∧ ∀ j : Nat, j < z → wB (0 + j) = f (a + (j : Int))) ↔ ltF f a z = 48951077234 := by
  rcases (show z = 1 ∨ z = 2 ∨ z = 3 ∨ z = 4 ∨ z = 5 ∨ z = 6 by omega) with rfl | rfl | rfl | rfl | rfl | rfl
  · have q0 := hl 0 (by omega)
    show _ ↔ (64 * 0 + f (a + ((0 : Nat) : Int)) - 64) = _
    exact ⟨fun h => absurd h.1 (by decide), fun h => by exfalso; omega⟩
  · have q0 := hl 0 (by omega); have q1 := hl 1 (by omega)
    show _ ↔ (64 * (64 * 0 + f (a + ((0 : Nat) : Int)) - 64) + f (a + ((1 : Nat) : Int)) - 64) = _
    exact ⟨fun h => absurd h.1 (by decide), fun h => by exfalso; omega⟩
  · have q0 := hl 0 (by omega); have q1 := hl 1 (by omega); have q2 := hl 2 (by omega)
    show _ ↔ (64 * (64 * (64 * 0 + f (a + ((0 : Nat) : Int)) - 64) + f (a + ((1 : Nat) : Int)) - 64) + f (a + ((2 : Nat) : Int)) - 64) = _
    exact ⟨fun h => absurd h.1 (by decide), fun h => by exfalso; omega⟩
  · have q0 := hl 0 (by omega); have q1 := hl 1 (by omega); have q2 := hl 2 (by omega); have q3 := hl 3 (by omega)
    show _ ↔ (64 * (64 * (64 * (64 * 0 + f (a + ((0 : Nat) : Int)) - 64) + f (a + ((1 : Nat) : Int)) - 64) + f (a + ((2 : Nat) : Int)) - 64) + f (a + ((3 : Nat) : Int)) - 64) = _
    exact ⟨fun h => absurd h.1 (by decide), fun h => by exfalso; omega⟩
  · have q0 := hl 0 (by omega); have q1 := hl 1 (by omega); have q2 := hl 2 (by omega); have q3 := hl 3 (by omega); have q4 := hl 4 (by omega)
    show _ ↔ (64 * (64 * (64 * (64 * (64 * 0 + f (a + ((0 : Nat) : Int)) - 64) + f (a + ((1 : Nat) : Int)) - 64) + f (a + ((2 : Nat) : Int)) - 64) + f (a + ((3 : Nat) : Int)) - 64) + f (a + ((4 : Nat) : Int)) - 64) = _
    exact ⟨fun h => absurd h.1 (by decide), fun h => by exfalso; omega⟩
  · have q0 := hl 0 (by omega); have q1 := hl 1 (by omega); have q2 := hl 2 (by omega); have q3 := hl 3 (by omega); have q4 := hl 4 (by omega); have q5 := hl 5 (by omega)
    show _ ↔ (64 * (64 * (64 * (64 * (64 * (64 * 0 + f (a + ((0 : Nat) : Int)) - 64) + f (a + ((1 : Nat) : Int)) - 64) + f (a + ((2 : Nat) : Int)) - 64) + f (a + ((3 : Nat) : Int)) - 64) + f (a + ((4 : Nat) : Int)) - 64) + f (a + ((5 : Nat) : Int)) - 64) = _
    refine ⟨fun h => ?_, fun h => ⟨rfl, fun j hj => ?_⟩⟩
    · have e0 : (109 : Int) = f (a + ((0 : Nat) : Int)) := h.2 0 (by omega)
      have e1 : (101 : Int) = f (a + ((1 : Nat) : Int)) := h.2 1 (by omega)
      have e2 : (109 : Int) = f (a + ((2 : Nat) : Int)) := h.2 2 (by omega)
      have e3 : (98 : Int) = f (a + ((3 : Nat) : Int)) := h.2 3 (by omega)
      have e4 : (101 : Int) = f (a + ((4 : Nat) : Int)) := h.2 4 (by omega)
      have e5 : (114 : Int) = f (a + ((5 : Nat) : Int)) := h.2 5 (by omega)
      omega
    · rcases (show j = 0 ∨ j = 1 ∨ j = 2 ∨ j = 3 ∨ j = 4 ∨ j = 5 by omega) with rfl | rfl | rfl | rfl | rfl | rfl
      · show (109 : Int) = _
        omega
      · show (101 : Int) = _
        omega
      · show (109 : Int) = _
        omega
      · show (98 : Int) = _
        omega
      · show (101 : Int) = _
        omega
      · show (114 : Int) = _
        omega
theorem spw_1 {f : Int → Int} {a : Int} {z : Nat} (hz : 1 ≤ z ∧ z ≤ 6) (hl : ∀ j : Nat, j < z → 65 ≤ f (a + (j : Int)) ∧ f (a + (j : Int)) ≤ 122) : (wB (7 + z) = 32 ∧ ∀ j : Nat, j < z → wB (7 + j) = f (a + (j : Int))) ↔ ltF f a z = 11689401 := by
  rcases (show z = 1 ∨ z = 2 ∨ z = 3 ∨ z = 4 ∨ z = 5 ∨ z = 6 by omega) with rfl | rfl | rfl | rfl | rfl | rfl
  · have q0 := hl 0 (by omega)
    show _ ↔ (64 * 0 + f (a + ((0 : Nat) : Int)) - 64) = _
    exact ⟨fun h => absurd h.1 (by decide), fun h => by exfalso; omega⟩
  · have q0 := hl 0 (by omega); have q1 := hl 1 (by omega)
    show _ ↔ (64 * (64 * 0 + f (a + ((0 : Nat) : Int)) - 64) + f (a + ((1 : Nat) : Int)) - 64) = _
    exact ⟨fun h => absurd h.1 (by decide), fun h => by exfalso; omega⟩
  · have q0 := hl 0 (by omega); have q1 := hl 1 (by omega); have q2 := hl 2 (by omega)
    show _ ↔ (64 * (64 * (64 * 0 + f (a + ((0 : Nat) : Int)) - 64) + f (a + ((1 : Nat) : Int)) - 64) + f (a + ((2 : Nat) : Int)) - 64) = _
    exact ⟨fun h => absurd h.1 (by decide), fun h => by exfalso; omega⟩
  · have q0 := hl 0 (by omega); have q1 := hl 1 (by omega); have q2 := hl 2 (by omega); have q3 := hl 3 (by omega)
    show _ ↔ (64 * (64 * (64 * (64 * 0 + f (a + ((0 : Nat) : Int)) - 64) + f (a + ((1 : Nat) : Int)) - 64) + f (a + ((2 : Nat) : Int)) - 64) + f (a + ((3 : Nat) : Int)) - 64) = _
    refine ⟨fun h => ?_, fun h => ⟨rfl, fun j hj => ?_⟩⟩
    · have e0 : (108 : Int) = f (a + ((0 : Nat) : Int)) := h.2 0 (by omega)
      have e1 : (101 : Int) = f (a + ((1 : Nat) : Int)) := h.2 1 (by omega)
      have e2 : (118 : Int) = f (a + ((2 : Nat) : Int)) := h.2 2 (by omega)
      have e3 : (121 : Int) = f (a + ((3 : Nat) : Int)) := h.2 3 (by omega)
      omega
    · rcases (show j = 0 ∨ j = 1 ∨ j = 2 ∨ j = 3 by omega) with rfl | rfl | rfl | rfl
      · show (108 : Int) = _
        omega
      · show (101 : Int) = _
        omega
      · show (118 : Int) = _
        omega
      · show (121 : Int) = _
        omega
  · have q0 := hl 0 (by omega); have q1 := hl 1 (by omega); have q2 := hl 2 (by omega); have q3 := hl 3 (by omega); have q4 := hl 4 (by omega)
    show _ ↔ (64 * (64 * (64 * (64 * (64 * 0 + f (a + ((0 : Nat) : Int)) - 64) + f (a + ((1 : Nat) : Int)) - 64) + f (a + ((2 : Nat) : Int)) - 64) + f (a + ((3 : Nat) : Int)) - 64) + f (a + ((4 : Nat) : Int)) - 64) = _
    refine ⟨fun h => ?_, fun h => by exfalso; omega⟩
    have e : (32 : Int) = f (a + ((4 : Nat) : Int)) := h.2 4 (by omega)
    omega
  · have q0 := hl 0 (by omega); have q1 := hl 1 (by omega); have q2 := hl 2 (by omega); have q3 := hl 3 (by omega); have q4 := hl 4 (by omega); have q5 := hl 5 (by omega)
    show _ ↔ (64 * (64 * (64 * (64 * (64 * (64 * 0 + f (a + ((0 : Nat) : Int)) - 64) + f (a + ((1 : Nat) : Int)) - 64) + f (a + ((2 : Nat) : Int)) - 64) + f (a + ((3 : Nat) : Int)) - 64) + f (a + ((4 : Nat) : Int)) - 64) + f (a + ((5 : Nat) : Int)) - 64) = _
    refine ⟨fun h => ?_, fun h => by exfalso; omega⟩
    have e : (32 : Int) = f (a + ((4 : Nat) : Int)) := h.2 4 (by omega)
    omega
theorem spw_2 {f : Int → Int} {a : Int} {z : Nat} (hz : 1 ≤ z ∧ z ≤ 6) (hl : ∀ j : Nat, j < z → 65 ≤ f (a + (j : Int)) ∧ f (a + (j : Int)) ≤ 122) : (wB (14 + z) = 32 ∧ ∀ j : Nat, j < z → wB (14 + j) = f (a + (j : Int))) ↔ ltF f a z = 9050347 := by
  rcases (show z = 1 ∨ z = 2 ∨ z = 3 ∨ z = 4 ∨ z = 5 ∨ z = 6 by omega) with rfl | rfl | rfl | rfl | rfl | rfl
  · have q0 := hl 0 (by omega)
    show _ ↔ (64 * 0 + f (a + ((0 : Nat) : Int)) - 64) = _
    exact ⟨fun h => absurd h.1 (by decide), fun h => by exfalso; omega⟩
  · have q0 := hl 0 (by omega); have q1 := hl 1 (by omega)
    show _ ↔ (64 * (64 * 0 + f (a + ((0 : Nat) : Int)) - 64) + f (a + ((1 : Nat) : Int)) - 64) = _
    exact ⟨fun h => absurd h.1 (by decide), fun h => by exfalso; omega⟩
  · have q0 := hl 0 (by omega); have q1 := hl 1 (by omega); have q2 := hl 2 (by omega)
    show _ ↔ (64 * (64 * (64 * 0 + f (a + ((0 : Nat) : Int)) - 64) + f (a + ((1 : Nat) : Int)) - 64) + f (a + ((2 : Nat) : Int)) - 64) = _
    exact ⟨fun h => absurd h.1 (by decide), fun h => by exfalso; omega⟩
  · have q0 := hl 0 (by omega); have q1 := hl 1 (by omega); have q2 := hl 2 (by omega); have q3 := hl 3 (by omega)
    show _ ↔ (64 * (64 * (64 * (64 * 0 + f (a + ((0 : Nat) : Int)) - 64) + f (a + ((1 : Nat) : Int)) - 64) + f (a + ((2 : Nat) : Int)) - 64) + f (a + ((3 : Nat) : Int)) - 64) = _
    refine ⟨fun h => ?_, fun h => ⟨rfl, fun j hj => ?_⟩⟩
    · have e0 : (98 : Int) = f (a + ((0 : Nat) : Int)) := h.2 0 (by omega)
      have e1 : (97 : Int) = f (a + ((1 : Nat) : Int)) := h.2 1 (by omega)
      have e2 : (99 : Int) = f (a + ((2 : Nat) : Int)) := h.2 2 (by omega)
      have e3 : (107 : Int) = f (a + ((3 : Nat) : Int)) := h.2 3 (by omega)
      omega
    · rcases (show j = 0 ∨ j = 1 ∨ j = 2 ∨ j = 3 by omega) with rfl | rfl | rfl | rfl
      · show (98 : Int) = _
        omega
      · show (97 : Int) = _
        omega
      · show (99 : Int) = _
        omega
      · show (107 : Int) = _
        omega
  · have q0 := hl 0 (by omega); have q1 := hl 1 (by omega); have q2 := hl 2 (by omega); have q3 := hl 3 (by omega); have q4 := hl 4 (by omega)
    show _ ↔ (64 * (64 * (64 * (64 * (64 * 0 + f (a + ((0 : Nat) : Int)) - 64) + f (a + ((1 : Nat) : Int)) - 64) + f (a + ((2 : Nat) : Int)) - 64) + f (a + ((3 : Nat) : Int)) - 64) + f (a + ((4 : Nat) : Int)) - 64) = _
    refine ⟨fun h => ?_, fun h => by exfalso; omega⟩
    have e : (32 : Int) = f (a + ((4 : Nat) : Int)) := h.2 4 (by omega)
    omega
  · have q0 := hl 0 (by omega); have q1 := hl 1 (by omega); have q2 := hl 2 (by omega); have q3 := hl 3 (by omega); have q4 := hl 4 (by omega); have q5 := hl 5 (by omega)
    show _ ↔ (64 * (64 * (64 * (64 * (64 * (64 * 0 + f (a + ((0 : Nat) : Int)) - 64) + f (a + ((1 : Nat) : Int)) - 64) + f (a + ((2 : Nat) : Int)) - 64) + f (a + ((3 : Nat) : Int)) - 64) + f (a + ((4 : Nat) : Int)) - 64) + f (a + ((5 : Nat) : Int)) - 64) = _
    refine ⟨fun h => ?_, fun h => by exfalso; omega⟩
    have e : (32 : Int) = f (a + ((4 : Nat) : Int)) := h.2 4 (by omega)
    omega
theorem spw_3 {f : Int → Int} {a : Int} {z : Nat} (hz : 1 ≤ z ∧ z ≤ 6) (hl : ∀ j : Nat, j < z → 65 ≤ f (a + (j : Int)) ∧ f (a + (j : Int)) ≤ 122) : (wB (21 + z) = 32 ∧ ∀ j : Nat, j < z → wB (21 + j) = f (a + (j : Int))) ↔ ltF f a z = 13584505 := by
  rcases (show z = 1 ∨ z = 2 ∨ z = 3 ∨ z = 4 ∨ z = 5 ∨ z = 6 by omega) with rfl | rfl | rfl | rfl | rfl | rfl
  · have q0 := hl 0 (by omega)
    show _ ↔ (64 * 0 + f (a + ((0 : Nat) : Int)) - 64) = _
    exact ⟨fun h => absurd h.1 (by decide), fun h => by exfalso; omega⟩
  · have q0 := hl 0 (by omega); have q1 := hl 1 (by omega)
    show _ ↔ (64 * (64 * 0 + f (a + ((0 : Nat) : Int)) - 64) + f (a + ((1 : Nat) : Int)) - 64) = _
    exact ⟨fun h => absurd h.1 (by decide), fun h => by exfalso; omega⟩
  · have q0 := hl 0 (by omega); have q1 := hl 1 (by omega); have q2 := hl 2 (by omega)
    show _ ↔ (64 * (64 * (64 * 0 + f (a + ((0 : Nat) : Int)) - 64) + f (a + ((1 : Nat) : Int)) - 64) + f (a + ((2 : Nat) : Int)) - 64) = _
    exact ⟨fun h => absurd h.1 (by decide), fun h => by exfalso; omega⟩
  · have q0 := hl 0 (by omega); have q1 := hl 1 (by omega); have q2 := hl 2 (by omega); have q3 := hl 3 (by omega)
    show _ ↔ (64 * (64 * (64 * (64 * 0 + f (a + ((0 : Nat) : Int)) - 64) + f (a + ((1 : Nat) : Int)) - 64) + f (a + ((2 : Nat) : Int)) - 64) + f (a + ((3 : Nat) : Int)) - 64) = _
    refine ⟨fun h => ?_, fun h => ⟨rfl, fun j hj => ?_⟩⟩
    · have e0 : (115 : Int) = f (a + ((0 : Nat) : Int)) := h.2 0 (by omega)
      have e1 : (116 : Int) = f (a + ((1 : Nat) : Int)) := h.2 1 (by omega)
      have e2 : (97 : Int) = f (a + ((2 : Nat) : Int)) := h.2 2 (by omega)
      have e3 : (121 : Int) = f (a + ((3 : Nat) : Int)) := h.2 3 (by omega)
      omega
    · rcases (show j = 0 ∨ j = 1 ∨ j = 2 ∨ j = 3 by omega) with rfl | rfl | rfl | rfl
      · show (115 : Int) = _
        omega
      · show (116 : Int) = _
        omega
      · show (97 : Int) = _
        omega
      · show (121 : Int) = _
        omega
  · have q0 := hl 0 (by omega); have q1 := hl 1 (by omega); have q2 := hl 2 (by omega); have q3 := hl 3 (by omega); have q4 := hl 4 (by omega)
    show _ ↔ (64 * (64 * (64 * (64 * (64 * 0 + f (a + ((0 : Nat) : Int)) - 64) + f (a + ((1 : Nat) : Int)) - 64) + f (a + ((2 : Nat) : Int)) - 64) + f (a + ((3 : Nat) : Int)) - 64) + f (a + ((4 : Nat) : Int)) - 64) = _
    refine ⟨fun h => ?_, fun h => by exfalso; omega⟩
    have e : (32 : Int) = f (a + ((4 : Nat) : Int)) := h.2 4 (by omega)
    omega
  · have q0 := hl 0 (by omega); have q1 := hl 1 (by omega); have q2 := hl 2 (by omega); have q3 := hl 3 (by omega); have q4 := hl 4 (by omega); have q5 := hl 5 (by omega)
    show _ ↔ (64 * (64 * (64 * (64 * (64 * (64 * 0 + f (a + ((0 : Nat) : Int)) - 64) + f (a + ((1 : Nat) : Int)) - 64) + f (a + ((2 : Nat) : Int)) - 64) + f (a + ((3 : Nat) : Int)) - 64) + f (a + ((4 : Nat) : Int)) - 64) + f (a + ((5 : Nat) : Int)) - 64) = _
    refine ⟨fun h => ?_, fun h => by exfalso; omega⟩
    have e : (32 : Int) = f (a + ((4 : Nat) : Int)) := h.2 4 (by omega)
    omega
theorem spw_4 {f : Int → Int} {a : Int} {z : Nat} (hz : 1 ≤ z ∧ z ≤ 6) (hl : ∀ j : Nat, j < z → 65 ≤ f (a + (j : Int)) ∧ f (a + (j : Int)) ≤ 122) : (wB (28 + z) = 32 ∧ ∀ j : Nat, j < z → wB (28 + j) = f (a + (j : Int))) ↔ ltF f a z = 145520 := by
  rcases (show z = 1 ∨ z = 2 ∨ z = 3 ∨ z = 4 ∨ z = 5 ∨ z = 6 by omega) with rfl | rfl | rfl | rfl | rfl | rfl
  · have q0 := hl 0 (by omega)
    show _ ↔ (64 * 0 + f (a + ((0 : Nat) : Int)) - 64) = _
    exact ⟨fun h => absurd h.1 (by decide), fun h => by exfalso; omega⟩
  · have q0 := hl 0 (by omega); have q1 := hl 1 (by omega)
    show _ ↔ (64 * (64 * 0 + f (a + ((0 : Nat) : Int)) - 64) + f (a + ((1 : Nat) : Int)) - 64) = _
    exact ⟨fun h => absurd h.1 (by decide), fun h => by exfalso; omega⟩
  · have q0 := hl 0 (by omega); have q1 := hl 1 (by omega); have q2 := hl 2 (by omega)
    show _ ↔ (64 * (64 * (64 * 0 + f (a + ((0 : Nat) : Int)) - 64) + f (a + ((1 : Nat) : Int)) - 64) + f (a + ((2 : Nat) : Int)) - 64) = _
    refine ⟨fun h => ?_, fun h => ⟨rfl, fun j hj => ?_⟩⟩
    · have e0 : (99 : Int) = f (a + ((0 : Nat) : Int)) := h.2 0 (by omega)
      have e1 : (97 : Int) = f (a + ((1 : Nat) : Int)) := h.2 1 (by omega)
      have e2 : (112 : Int) = f (a + ((2 : Nat) : Int)) := h.2 2 (by omega)
      omega
    · rcases (show j = 0 ∨ j = 1 ∨ j = 2 by omega) with rfl | rfl | rfl
      · show (99 : Int) = _
        omega
      · show (97 : Int) = _
        omega
      · show (112 : Int) = _
        omega
  · have q0 := hl 0 (by omega); have q1 := hl 1 (by omega); have q2 := hl 2 (by omega); have q3 := hl 3 (by omega)
    show _ ↔ (64 * (64 * (64 * (64 * 0 + f (a + ((0 : Nat) : Int)) - 64) + f (a + ((1 : Nat) : Int)) - 64) + f (a + ((2 : Nat) : Int)) - 64) + f (a + ((3 : Nat) : Int)) - 64) = _
    refine ⟨fun h => ?_, fun h => by exfalso; omega⟩
    have e : (32 : Int) = f (a + ((3 : Nat) : Int)) := h.2 3 (by omega)
    omega
  · have q0 := hl 0 (by omega); have q1 := hl 1 (by omega); have q2 := hl 2 (by omega); have q3 := hl 3 (by omega); have q4 := hl 4 (by omega)
    show _ ↔ (64 * (64 * (64 * (64 * (64 * 0 + f (a + ((0 : Nat) : Int)) - 64) + f (a + ((1 : Nat) : Int)) - 64) + f (a + ((2 : Nat) : Int)) - 64) + f (a + ((3 : Nat) : Int)) - 64) + f (a + ((4 : Nat) : Int)) - 64) = _
    refine ⟨fun h => ?_, fun h => by exfalso; omega⟩
    have e : (32 : Int) = f (a + ((3 : Nat) : Int)) := h.2 3 (by omega)
    omega
  · have q0 := hl 0 (by omega); have q1 := hl 1 (by omega); have q2 := hl 2 (by omega); have q3 := hl 3 (by omega); have q4 := hl 4 (by omega); have q5 := hl 5 (by omega)
    show _ ↔ (64 * (64 * (64 * (64 * (64 * (64 * 0 + f (a + ((0 : Nat) : Int)) - 64) + f (a + ((1 : Nat) : Int)) - 64) + f (a + ((2 : Nat) : Int)) - 64) + f (a + ((3 : Nat) : Int)) - 64) + f (a + ((4 : Nat) : Int)) - 64) + f (a + ((5 : Nat) : Int)) - 64) = _
    refine ⟨fun h => ?_, fun h => by exfalso; omega⟩
    have e : (32 : Int) = f (a + ((3 : Nat) : Int)) := h.2 3 (by omega)
    omega
theorem spw_5 {f : Int → Int} {a : Int} {z : Nat} (hz : 1 ≤ z ∧ z ≤ 6) (hl : ∀ j : Nat, j < z → 65 ≤ f (a + (j : Int)) ∧ f (a + (j : Int)) ≤ 122) : (wB (35 + z) = 32 ∧ ∀ j : Nat, j < z → wB (35 + j) = f (a + (j : Int))) ↔ ltF f a z = 818609126 := by
  rcases (show z = 1 ∨ z = 2 ∨ z = 3 ∨ z = 4 ∨ z = 5 ∨ z = 6 by omega) with rfl | rfl | rfl | rfl | rfl | rfl
  · have q0 := hl 0 (by omega)
    show _ ↔ (64 * 0 + f (a + ((0 : Nat) : Int)) - 64) = _
    exact ⟨fun h => absurd h.1 (by decide), fun h => by exfalso; omega⟩
  · have q0 := hl 0 (by omega); have q1 := hl 1 (by omega)
    show _ ↔ (64 * (64 * 0 + f (a + ((0 : Nat) : Int)) - 64) + f (a + ((1 : Nat) : Int)) - 64) = _
    exact ⟨fun h => absurd h.1 (by decide), fun h => by exfalso; omega⟩
  · have q0 := hl 0 (by omega); have q1 := hl 1 (by omega); have q2 := hl 2 (by omega)
    show _ ↔ (64 * (64 * (64 * 0 + f (a + ((0 : Nat) : Int)) - 64) + f (a + ((1 : Nat) : Int)) - 64) + f (a + ((2 : Nat) : Int)) - 64) = _
    exact ⟨fun h => absurd h.1 (by decide), fun h => by exfalso; omega⟩
  · have q0 := hl 0 (by omega); have q1 := hl 1 (by omega); have q2 := hl 2 (by omega); have q3 := hl 3 (by omega)
    show _ ↔ (64 * (64 * (64 * (64 * 0 + f (a + ((0 : Nat) : Int)) - 64) + f (a + ((1 : Nat) : Int)) - 64) + f (a + ((2 : Nat) : Int)) - 64) + f (a + ((3 : Nat) : Int)) - 64) = _
    exact ⟨fun h => absurd h.1 (by decide), fun h => by exfalso; omega⟩
  · have q0 := hl 0 (by omega); have q1 := hl 1 (by omega); have q2 := hl 2 (by omega); have q3 := hl 3 (by omega); have q4 := hl 4 (by omega)
    show _ ↔ (64 * (64 * (64 * (64 * (64 * 0 + f (a + ((0 : Nat) : Int)) - 64) + f (a + ((1 : Nat) : Int)) - 64) + f (a + ((2 : Nat) : Int)) - 64) + f (a + ((3 : Nat) : Int)) - 64) + f (a + ((4 : Nat) : Int)) - 64) = _
    refine ⟨fun h => ?_, fun h => ⟨rfl, fun j hj => ?_⟩⟩
    · have e0 : (112 : Int) = f (a + ((0 : Nat) : Int)) := h.2 0 (by omega)
      have e1 : (114 : Int) = f (a + ((1 : Nat) : Int)) := h.2 1 (by omega)
      have e2 : (111 : Int) = f (a + ((2 : Nat) : Int)) := h.2 2 (by omega)
      have e3 : (111 : Int) = f (a + ((3 : Nat) : Int)) := h.2 3 (by omega)
      have e4 : (102 : Int) = f (a + ((4 : Nat) : Int)) := h.2 4 (by omega)
      omega
    · rcases (show j = 0 ∨ j = 1 ∨ j = 2 ∨ j = 3 ∨ j = 4 by omega) with rfl | rfl | rfl | rfl | rfl
      · show (112 : Int) = _
        omega
      · show (114 : Int) = _
        omega
      · show (111 : Int) = _
        omega
      · show (111 : Int) = _
        omega
      · show (102 : Int) = _
        omega
  · have q0 := hl 0 (by omega); have q1 := hl 1 (by omega); have q2 := hl 2 (by omega); have q3 := hl 3 (by omega); have q4 := hl 4 (by omega); have q5 := hl 5 (by omega)
    show _ ↔ (64 * (64 * (64 * (64 * (64 * (64 * 0 + f (a + ((0 : Nat) : Int)) - 64) + f (a + ((1 : Nat) : Int)) - 64) + f (a + ((2 : Nat) : Int)) - 64) + f (a + ((3 : Nat) : Int)) - 64) + f (a + ((4 : Nat) : Int)) - 64) + f (a + ((5 : Nat) : Int)) - 64) = _
    refine ⟨fun h => ?_, fun h => by exfalso; omega⟩
    have e : (32 : Int) = f (a + ((5 : Nat) : Int)) := h.2 5 (by omega)
    omega
theorem spw_6 {f : Int → Int} {a : Int} {z : Nat} (hz : 1 ≤ z ∧ z ≤ 6) (hl : ∀ j : Nat, j < z → 65 ≤ f (a + (j : Int)) ∧ f (a + (j : Int)) ≤ 122) : (wB (42 + z) = 32 ∧ ∀ j : Nat, j < z → wB (42 + j) = f (a + (j : Int))) ↔ ltF f a z = 11934891 := by
  rcases (show z = 1 ∨ z = 2 ∨ z = 3 ∨ z = 4 ∨ z = 5 ∨ z = 6 by omega) with rfl | rfl | rfl | rfl | rfl | rfl
  · have q0 := hl 0 (by omega)
    show _ ↔ (64 * 0 + f (a + ((0 : Nat) : Int)) - 64) = _
    exact ⟨fun h => absurd h.1 (by decide), fun h => by exfalso; omega⟩
  · have q0 := hl 0 (by omega); have q1 := hl 1 (by omega)
    show _ ↔ (64 * (64 * 0 + f (a + ((0 : Nat) : Int)) - 64) + f (a + ((1 : Nat) : Int)) - 64) = _
    exact ⟨fun h => absurd h.1 (by decide), fun h => by exfalso; omega⟩
  · have q0 := hl 0 (by omega); have q1 := hl 1 (by omega); have q2 := hl 2 (by omega)
    show _ ↔ (64 * (64 * (64 * 0 + f (a + ((0 : Nat) : Int)) - 64) + f (a + ((1 : Nat) : Int)) - 64) + f (a + ((2 : Nat) : Int)) - 64) = _
    exact ⟨fun h => absurd h.1 (by decide), fun h => by exfalso; omega⟩
  · have q0 := hl 0 (by omega); have q1 := hl 1 (by omega); have q2 := hl 2 (by omega); have q3 := hl 3 (by omega)
    show _ ↔ (64 * (64 * (64 * (64 * 0 + f (a + ((0 : Nat) : Int)) - 64) + f (a + ((1 : Nat) : Int)) - 64) + f (a + ((2 : Nat) : Int)) - 64) + f (a + ((3 : Nat) : Int)) - 64) = _
    refine ⟨fun h => ?_, fun h => ⟨rfl, fun j hj => ?_⟩⟩
    · have e0 : (109 : Int) = f (a + ((0 : Nat) : Int)) := h.2 0 (by omega)
      have e1 : (97 : Int) = f (a + ((1 : Nat) : Int)) := h.2 1 (by omega)
      have e2 : (114 : Int) = f (a + ((2 : Nat) : Int)) := h.2 2 (by omega)
      have e3 : (107 : Int) = f (a + ((3 : Nat) : Int)) := h.2 3 (by omega)
      omega
    · rcases (show j = 0 ∨ j = 1 ∨ j = 2 ∨ j = 3 by omega) with rfl | rfl | rfl | rfl
      · show (109 : Int) = _
        omega
      · show (97 : Int) = _
        omega
      · show (114 : Int) = _
        omega
      · show (107 : Int) = _
        omega
  · have q0 := hl 0 (by omega); have q1 := hl 1 (by omega); have q2 := hl 2 (by omega); have q3 := hl 3 (by omega); have q4 := hl 4 (by omega)
    show _ ↔ (64 * (64 * (64 * (64 * (64 * 0 + f (a + ((0 : Nat) : Int)) - 64) + f (a + ((1 : Nat) : Int)) - 64) + f (a + ((2 : Nat) : Int)) - 64) + f (a + ((3 : Nat) : Int)) - 64) + f (a + ((4 : Nat) : Int)) - 64) = _
    refine ⟨fun h => ?_, fun h => by exfalso; omega⟩
    have e : (32 : Int) = f (a + ((4 : Nat) : Int)) := h.2 4 (by omega)
    omega
  · have q0 := hl 0 (by omega); have q1 := hl 1 (by omega); have q2 := hl 2 (by omega); have q3 := hl 3 (by omega); have q4 := hl 4 (by omega); have q5 := hl 5 (by omega)
    show _ ↔ (64 * (64 * (64 * (64 * (64 * (64 * 0 + f (a + ((0 : Nat) : Int)) - 64) + f (a + ((1 : Nat) : Int)) - 64) + f (a + ((2 : Nat) : Int)) - 64) + f (a + ((3 : Nat) : Int)) - 64) + f (a + ((4 : Nat) : Int)) - 64) + f (a + ((5 : Nat) : Int)) - 64) = _
    refine ⟨fun h => ?_, fun h => by exfalso; omega⟩
    have e : (32 : Int) = f (a + ((4 : Nat) : Int)) := h.2 4 (by omega)
    omega
theorem spw_7 {f : Int → Int} {a : Int} {z : Nat} (hz : 1 ≤ z ∧ z ≤ 6) (hl : ∀ j : Nat, j < z → 65 ≤ f (a + (j : Int)) ∧ f (a + (j : Int)) ≤ 122) : (wB (49 + z) = 32 ∧ ∀ j : Nat, j < z → wB (49 + j) = f (a + (j : Int))) ↔ ltF f a z = 931559795 := by
  rcases (show z = 1 ∨ z = 2 ∨ z = 3 ∨ z = 4 ∨ z = 5 ∨ z = 6 by omega) with rfl | rfl | rfl | rfl | rfl | rfl
  · have q0 := hl 0 (by omega)
    show _ ↔ (64 * 0 + f (a + ((0 : Nat) : Int)) - 64) = _
    exact ⟨fun h => absurd h.1 (by decide), fun h => by exfalso; omega⟩
  · have q0 := hl 0 (by omega); have q1 := hl 1 (by omega)
    show _ ↔ (64 * (64 * 0 + f (a + ((0 : Nat) : Int)) - 64) + f (a + ((1 : Nat) : Int)) - 64) = _
    exact ⟨fun h => absurd h.1 (by decide), fun h => by exfalso; omega⟩
  · have q0 := hl 0 (by omega); have q1 := hl 1 (by omega); have q2 := hl 2 (by omega)
    show _ ↔ (64 * (64 * (64 * 0 + f (a + ((0 : Nat) : Int)) - 64) + f (a + ((1 : Nat) : Int)) - 64) + f (a + ((2 : Nat) : Int)) - 64) = _
    exact ⟨fun h => absurd h.1 (by decide), fun h => by exfalso; omega⟩
  · have q0 := hl 0 (by omega); have q1 := hl 1 (by omega); have q2 := hl 2 (by omega); have q3 := hl 3 (by omega)
    show _ ↔ (64 * (64 * (64 * (64 * 0 + f (a + ((0 : Nat) : Int)) - 64) + f (a + ((1 : Nat) : Int)) - 64) + f (a + ((2 : Nat) : Int)) - 64) + f (a + ((3 : Nat) : Int)) - 64) = _
    exact ⟨fun h => absurd h.1 (by decide), fun h => by exfalso; omega⟩
  · have q0 := hl 0 (by omega); have q1 := hl 1 (by omega); have q2 := hl 2 (by omega); have q3 := hl 3 (by omega); have q4 := hl 4 (by omega)
    show _ ↔ (64 * (64 * (64 * (64 * (64 * 0 + f (a + ((0 : Nat) : Int)) - 64) + f (a + ((1 : Nat) : Int)) - 64) + f (a + ((2 : Nat) : Int)) - 64) + f (a + ((3 : Nat) : Int)) - 64) + f (a + ((4 : Nat) : Int)) - 64) = _
    refine ⟨fun h => ?_, fun h => ⟨rfl, fun j hj => ?_⟩⟩
    · have e0 : (119 : Int) = f (a + ((0 : Nat) : Int)) := h.2 0 (by omega)
      have e1 : (97 : Int) = f (a + ((1 : Nat) : Int)) := h.2 1 (by omega)
      have e2 : (103 : Int) = f (a + ((2 : Nat) : Int)) := h.2 2 (by omega)
      have e3 : (101 : Int) = f (a + ((3 : Nat) : Int)) := h.2 3 (by omega)
      have e4 : (115 : Int) = f (a + ((4 : Nat) : Int)) := h.2 4 (by omega)
      omega
    · rcases (show j = 0 ∨ j = 1 ∨ j = 2 ∨ j = 3 ∨ j = 4 by omega) with rfl | rfl | rfl | rfl | rfl
      · show (119 : Int) = _
        omega
      · show (97 : Int) = _
        omega
      · show (103 : Int) = _
        omega
      · show (101 : Int) = _
        omega
      · show (115 : Int) = _
        omega
  · have q0 := hl 0 (by omega); have q1 := hl 1 (by omega); have q2 := hl 2 (by omega); have q3 := hl 3 (by omega); have q4 := hl 4 (by omega); have q5 := hl 5 (by omega)
    show _ ↔ (64 * (64 * (64 * (64 * (64 * (64 * 0 + f (a + ((0 : Nat) : Int)) - 64) + f (a + ((1 : Nat) : Int)) - 64) + f (a + ((2 : Nat) : Int)) - 64) + f (a + ((3 : Nat) : Int)) - 64) + f (a + ((4 : Nat) : Int)) - 64) + f (a + ((5 : Nat) : Int)) - 64) = _
    refine ⟨fun h => ?_, fun h => by exfalso; omega⟩
    have e : (32 : Int) = f (a + ((5 : Nat) : Int)) := h.2 5 (by omega)
    omega
theorem spw_8 {f : Int → Int} {a : Int} {z : Nat} (hz : 1 ≤ z ∧ z ≤ 6) (hl : ∀ j : Nat, j < z → 65 ≤ f (a + (j : Int)) ∧ f (a + (j : Int)) ≤ 122) : (wB (56 + z) = 32 ∧ ∀ j : Nat, j < z → wB (56 + j) = f (a + (j : Int))) ↔ ltF f a z = 680925491 := by
  rcases (show z = 1 ∨ z = 2 ∨ z = 3 ∨ z = 4 ∨ z = 5 ∨ z = 6 by omega) with rfl | rfl | rfl | rfl | rfl | rfl
  · have q0 := hl 0 (by omega)
    show _ ↔ (64 * 0 + f (a + ((0 : Nat) : Int)) - 64) = _
    exact ⟨fun h => absurd h.1 (by decide), fun h => by exfalso; omega⟩
  · have q0 := hl 0 (by omega); have q1 := hl 1 (by omega)
    show _ ↔ (64 * (64 * 0 + f (a + ((0 : Nat) : Int)) - 64) + f (a + ((1 : Nat) : Int)) - 64) = _
    exact ⟨fun h => absurd h.1 (by decide), fun h => by exfalso; omega⟩
  · have q0 := hl 0 (by omega); have q1 := hl 1 (by omega); have q2 := hl 2 (by omega)
    show _ ↔ (64 * (64 * (64 * 0 + f (a + ((0 : Nat) : Int)) - 64) + f (a + ((1 : Nat) : Int)) - 64) + f (a + ((2 : Nat) : Int)) - 64) = _
    exact ⟨fun h => absurd h.1 (by decide), fun h => by exfalso; omega⟩
  · have q0 := hl 0 (by omega); have q1 := hl 1 (by omega); have q2 := hl 2 (by omega); have q3 := hl 3 (by omega)
    show _ ↔ (64 * (64 * (64 * (64 * 0 + f (a + ((0 : Nat) : Int)) - 64) + f (a + ((1 : Nat) : Int)) - 64) + f (a + ((2 : Nat) : Int)) - 64) + f (a + ((3 : Nat) : Int)) - 64) = _
    exact ⟨fun h => absurd h.1 (by decide), fun h => by exfalso; omega⟩
  · have q0 := hl 0 (by omega); have q1 := hl 1 (by omega); have q2 := hl 2 (by omega); have q3 := hl 3 (by omega); have q4 := hl 4 (by omega)
    show _ ↔ (64 * (64 * (64 * (64 * (64 * 0 + f (a + ((0 : Nat) : Int)) - 64) + f (a + ((1 : Nat) : Int)) - 64) + f (a + ((2 : Nat) : Int)) - 64) + f (a + ((3 : Nat) : Int)) - 64) + f (a + ((4 : Nat) : Int)) - 64) = _
    refine ⟨fun h => ?_, fun h => ⟨rfl, fun j hj => ?_⟩⟩
    · have e0 : (104 : Int) = f (a + ((0 : Nat) : Int)) := h.2 0 (by omega)
      have e1 : (101 : Int) = f (a + ((1 : Nat) : Int)) := h.2 1 (by omega)
      have e2 : (97 : Int) = f (a + ((2 : Nat) : Int)) := h.2 2 (by omega)
      have e3 : (100 : Int) = f (a + ((3 : Nat) : Int)) := h.2 3 (by omega)
      have e4 : (115 : Int) = f (a + ((4 : Nat) : Int)) := h.2 4 (by omega)
      omega
    · rcases (show j = 0 ∨ j = 1 ∨ j = 2 ∨ j = 3 ∨ j = 4 by omega) with rfl | rfl | rfl | rfl | rfl
      · show (104 : Int) = _
        omega
      · show (101 : Int) = _
        omega
      · show (97 : Int) = _
        omega
      · show (100 : Int) = _
        omega
      · show (115 : Int) = _
        omega
  · have q0 := hl 0 (by omega); have q1 := hl 1 (by omega); have q2 := hl 2 (by omega); have q3 := hl 3 (by omega); have q4 := hl 4 (by omega); have q5 := hl 5 (by omega)
    show _ ↔ (64 * (64 * (64 * (64 * (64 * (64 * 0 + f (a + ((0 : Nat) : Int)) - 64) + f (a + ((1 : Nat) : Int)) - 64) + f (a + ((2 : Nat) : Int)) - 64) + f (a + ((3 : Nat) : Int)) - 64) + f (a + ((4 : Nat) : Int)) - 64) + f (a + ((5 : Nat) : Int)) - 64) = _
    refine ⟨fun h => ?_, fun h => by exfalso; omega⟩
    have e : (32 : Int) = f (a + ((5 : Nat) : Int)) := h.2 5 (by omega)
    omega
theorem spw_9 {f : Int → Int} {a : Int} {z : Nat} (hz : 1 ≤ z ∧ z ≤ 6) (hl : ∀ j : Nat, j < z → 65 ≤ f (a + (j : Int)) ∧ f (a + (j : Int)) ≤ 122) : (wB (63 + z) = 32 ∧ ∀ j : Nat, j < z → wB (63 + j) = f (a + (j : Int))) ↔ ltF f a z = 12720740 := by
  rcases (show z = 1 ∨ z = 2 ∨ z = 3 ∨ z = 4 ∨ z = 5 ∨ z = 6 by omega) with rfl | rfl | rfl | rfl | rfl | rfl
  · have q0 := hl 0 (by omega)
    show _ ↔ (64 * 0 + f (a + ((0 : Nat) : Int)) - 64) = _
    exact ⟨fun h => absurd h.1 (by decide), fun h => by exfalso; omega⟩
  · have q0 := hl 0 (by omega); have q1 := hl 1 (by omega)
    show _ ↔ (64 * (64 * 0 + f (a + ((0 : Nat) : Int)) - 64) + f (a + ((1 : Nat) : Int)) - 64) = _
    exact ⟨fun h => absurd h.1 (by decide), fun h => by exfalso; omega⟩
  · have q0 := hl 0 (by omega); have q1 := hl 1 (by omega); have q2 := hl 2 (by omega)
    show _ ↔ (64 * (64 * (64 * 0 + f (a + ((0 : Nat) : Int)) - 64) + f (a + ((1 : Nat) : Int)) - 64) + f (a + ((2 : Nat) : Int)) - 64) = _
    exact ⟨fun h => absurd h.1 (by decide), fun h => by exfalso; omega⟩
  · have q0 := hl 0 (by omega); have q1 := hl 1 (by omega); have q2 := hl 2 (by omega); have q3 := hl 3 (by omega)
    show _ ↔ (64 * (64 * (64 * (64 * 0 + f (a + ((0 : Nat) : Int)) - 64) + f (a + ((1 : Nat) : Int)) - 64) + f (a + ((2 : Nat) : Int)) - 64) + f (a + ((3 : Nat) : Int)) - 64) = _
    refine ⟨fun h => ?_, fun h => ⟨rfl, fun j hj => ?_⟩⟩
    · have e0 : (112 : Int) = f (a + ((0 : Nat) : Int)) := h.2 0 (by omega)
      have e1 : (97 : Int) = f (a + ((1 : Nat) : Int)) := h.2 1 (by omega)
      have e2 : (105 : Int) = f (a + ((2 : Nat) : Int)) := h.2 2 (by omega)
      have e3 : (100 : Int) = f (a + ((3 : Nat) : Int)) := h.2 3 (by omega)
      omega
    · rcases (show j = 0 ∨ j = 1 ∨ j = 2 ∨ j = 3 by omega) with rfl | rfl | rfl | rfl
      · show (112 : Int) = _
        omega
      · show (97 : Int) = _
        omega
      · show (105 : Int) = _
        omega
      · show (100 : Int) = _
        omega
  · have q0 := hl 0 (by omega); have q1 := hl 1 (by omega); have q2 := hl 2 (by omega); have q3 := hl 3 (by omega); have q4 := hl 4 (by omega)
    show _ ↔ (64 * (64 * (64 * (64 * (64 * 0 + f (a + ((0 : Nat) : Int)) - 64) + f (a + ((1 : Nat) : Int)) - 64) + f (a + ((2 : Nat) : Int)) - 64) + f (a + ((3 : Nat) : Int)) - 64) + f (a + ((4 : Nat) : Int)) - 64) = _
    refine ⟨fun h => ?_, fun h => by exfalso; omega⟩
    have e : (32 : Int) = f (a + ((4 : Nat) : Int)) := h.2 4 (by omega)
    omega
  · have q0 := hl 0 (by omega); have q1 := hl 1 (by omega); have q2 := hl 2 (by omega); have q3 := hl 3 (by omega); have q4 := hl 4 (by omega); have q5 := hl 5 (by omega)
    show _ ↔ (64 * (64 * (64 * (64 * (64 * (64 * 0 + f (a + ((0 : Nat) : Int)) - 64) + f (a + ((1 : Nat) : Int)) - 64) + f (a + ((2 : Nat) : Int)) - 64) + f (a + ((3 : Nat) : Int)) - 64) + f (a + ((4 : Nat) : Int)) - 64) + f (a + ((5 : Nat) : Int)) - 64) = _
    refine ⟨fun h => ?_, fun h => by exfalso; omega⟩
    have e : (32 : Int) = f (a + ((4 : Nat) : Int)) := h.2 4 (by omega)
    omega
theorem spw_10 {f : Int → Int} {a : Int} {z : Nat} (hz : 1 ≤ z ∧ z ≤ 6) (hl : ∀ j : Nat, j < z → 65 ≤ f (a + (j : Int)) ∧ f (a + (j : Int)) ≤ 122) : (wB (70 + z) = 32 ∧ ∀ j : Nat, j < z → wB (70 + j) = f (a + (j : Int))) ↔ ltF f a z = 767487272 := by
  rcases (show z = 1 ∨ z = 2 ∨ z = 3 ∨ z = 4 ∨ z = 5 ∨ z = 6 by omega) with rfl | rfl | rfl | rfl | rfl | rfl
  · have q0 := hl 0 (by omega)
    show _ ↔ (64 * 0 + f (a + ((0 : Nat) : Int)) - 64) = _
    exact ⟨fun h => absurd h.1 (by decide), fun h => by exfalso; omega⟩
  · have q0 := hl 0 (by omega); have q1 := hl 1 (by omega)
    show _ ↔ (64 * (64 * 0 + f (a + ((0 : Nat) : Int)) - 64) + f (a + ((1 : Nat) : Int)) - 64) = _
    exact ⟨fun h => absurd h.1 (by decide), fun h => by exfalso; omega⟩
  · have q0 := hl 0 (by omega); have q1 := hl 1 (by omega); have q2 := hl 2 (by omega)
    show _ ↔ (64 * (64 * (64 * 0 + f (a + ((0 : Nat) : Int)) - 64) + f (a + ((1 : Nat) : Int)) - 64) + f (a + ((2 : Nat) : Int)) - 64) = _
    exact ⟨fun h => absurd h.1 (by decide), fun h => by exfalso; omega⟩
  · have q0 := hl 0 (by omega); have q1 := hl 1 (by omega); have q2 := hl 2 (by omega); have q3 := hl 3 (by omega)
    show _ ↔ (64 * (64 * (64 * (64 * 0 + f (a + ((0 : Nat) : Int)) - 64) + f (a + ((1 : Nat) : Int)) - 64) + f (a + ((2 : Nat) : Int)) - 64) + f (a + ((3 : Nat) : Int)) - 64) = _
    exact ⟨fun h => absurd h.1 (by decide), fun h => by exfalso; omega⟩
  · have q0 := hl 0 (by omega); have q1 := hl 1 (by omega); have q2 := hl 2 (by omega); have q3 := hl 3 (by omega); have q4 := hl 4 (by omega)
    show _ ↔ (64 * (64 * (64 * (64 * (64 * 0 + f (a + ((0 : Nat) : Int)) - 64) + f (a + ((1 : Nat) : Int)) - 64) + f (a + ((2 : Nat) : Int)) - 64) + f (a + ((3 : Nat) : Int)) - 64) + f (a + ((4 : Nat) : Int)) - 64) = _
    refine ⟨fun h => ?_, fun h => ⟨rfl, fun j hj => ?_⟩⟩
    · have e0 : (109 : Int) = f (a + ((0 : Nat) : Int)) := h.2 0 (by omega)
      have e1 : (111 : Int) = f (a + ((1 : Nat) : Int)) := h.2 1 (by omega)
      have e2 : (110 : Int) = f (a + ((2 : Nat) : Int)) := h.2 2 (by omega)
      have e3 : (116 : Int) = f (a + ((3 : Nat) : Int)) := h.2 3 (by omega)
      have e4 : (104 : Int) = f (a + ((4 : Nat) : Int)) := h.2 4 (by omega)
      omega
    · rcases (show j = 0 ∨ j = 1 ∨ j = 2 ∨ j = 3 ∨ j = 4 by omega) with rfl | rfl | rfl | rfl | rfl
      · show (109 : Int) = _
        omega
      · show (111 : Int) = _
        omega
      · show (110 : Int) = _
        omega
      · show (116 : Int) = _
        omega
      · show (104 : Int) = _
        omega
  · have q0 := hl 0 (by omega); have q1 := hl 1 (by omega); have q2 := hl 2 (by omega); have q3 := hl 3 (by omega); have q4 := hl 4 (by omega); have q5 := hl 5 (by omega)
    show _ ↔ (64 * (64 * (64 * (64 * (64 * (64 * 0 + f (a + ((0 : Nat) : Int)) - 64) + f (a + ((1 : Nat) : Int)) - 64) + f (a + ((2 : Nat) : Int)) - 64) + f (a + ((3 : Nat) : Int)) - 64) + f (a + ((4 : Nat) : Int)) - 64) + f (a + ((5 : Nat) : Int)) - 64) = _
    refine ⟨fun h => ?_, fun h => by exfalso; omega⟩
    have e : (32 : Int) = f (a + ((5 : Nat) : Int)) := h.2 5 (by omega)
    omega
theorem spw_11 {f : Int → Int} {a : Int} {z : Nat} (hz : 1 ≤ z ∧ z ≤ 6) (hl : ∀ j : Nat, j < z → 65 ≤ f (a + (j : Int)) ∧ f (a + (j : Int)) ≤ 122) : (wB (77 + z) = 32 ∧ ∀ j : Nat, j < z → wB (77 + j) = f (a + (j : Int))) ↔ ltF f a z = 683629747 := by
  rcases (show z = 1 ∨ z = 2 ∨ z = 3 ∨ z = 4 ∨ z = 5 ∨ z = 6 by omega) with rfl | rfl | rfl | rfl | rfl | rfl
  · have q0 := hl 0 (by omega)
    show _ ↔ (64 * 0 + f (a + ((0 : Nat) : Int)) - 64) = _
    exact ⟨fun h => absurd h.1 (by decide), fun h => by exfalso; omega⟩
  · have q0 := hl 0 (by omega); have q1 := hl 1 (by omega)
    show _ ↔ (64 * (64 * 0 + f (a + ((0 : Nat) : Int)) - 64) + f (a + ((1 : Nat) : Int)) - 64) = _
    exact ⟨fun h => absurd h.1 (by decide), fun h => by exfalso; omega⟩
  · have q0 := hl 0 (by omega); have q1 := hl 1 (by omega); have q2 := hl 2 (by omega)
    show _ ↔ (64 * (64 * (64 * 0 + f (a + ((0 : Nat) : Int)) - 64) + f (a + ((1 : Nat) : Int)) - 64) + f (a + ((2 : Nat) : Int)) - 64) = _
    exact ⟨fun h => absurd h.1 (by decide), fun h => by exfalso; omega⟩
  · have q0 := hl 0 (by omega); have q1 := hl 1 (by omega); have q2 := hl 2 (by omega); have q3 := hl 3 (by omega)
    show _ ↔ (64 * (64 * (64 * (64 * 0 + f (a + ((0 : Nat) : Int)) - 64) + f (a + ((1 : Nat) : Int)) - 64) + f (a + ((2 : Nat) : Int)) - 64) + f (a + ((3 : Nat) : Int)) - 64) = _
    exact ⟨fun h => absurd h.1 (by decide), fun h => by exfalso; omega⟩
  · have q0 := hl 0 (by omega); have q1 := hl 1 (by omega); have q2 := hl 2 (by omega); have q3 := hl 3 (by omega); have q4 := hl 4 (by omega)
    show _ ↔ (64 * (64 * (64 * (64 * (64 * 0 + f (a + ((0 : Nat) : Int)) - 64) + f (a + ((1 : Nat) : Int)) - 64) + f (a + ((2 : Nat) : Int)) - 64) + f (a + ((3 : Nat) : Int)) - 64) + f (a + ((4 : Nat) : Int)) - 64) = _
    refine ⟨fun h => ?_, fun h => ⟨rfl, fun j hj => ?_⟩⟩
    · have e0 : (104 : Int) = f (a + ((0 : Nat) : Int)) := h.2 0 (by omega)
      have e1 : (111 : Int) = f (a + ((1 : Nat) : Int)) := h.2 1 (by omega)
      have e2 : (117 : Int) = f (a + ((2 : Nat) : Int)) := h.2 2 (by omega)
      have e3 : (114 : Int) = f (a + ((3 : Nat) : Int)) := h.2 3 (by omega)
      have e4 : (115 : Int) = f (a + ((4 : Nat) : Int)) := h.2 4 (by omega)
      omega
    · rcases (show j = 0 ∨ j = 1 ∨ j = 2 ∨ j = 3 ∨ j = 4 by omega) with rfl | rfl | rfl | rfl | rfl
      · show (104 : Int) = _
        omega
      · show (111 : Int) = _
        omega
      · show (117 : Int) = _
        omega
      · show (114 : Int) = _
        omega
      · show (115 : Int) = _
        omega
  · have q0 := hl 0 (by omega); have q1 := hl 1 (by omega); have q2 := hl 2 (by omega); have q3 := hl 3 (by omega); have q4 := hl 4 (by omega); have q5 := hl 5 (by omega)
    show _ ↔ (64 * (64 * (64 * (64 * (64 * (64 * 0 + f (a + ((0 : Nat) : Int)) - 64) + f (a + ((1 : Nat) : Int)) - 64) + f (a + ((2 : Nat) : Int)) - 64) + f (a + ((3 : Nat) : Int)) - 64) + f (a + ((4 : Nat) : Int)) - 64) + f (a + ((5 : Nat) : Int)) - 64) = _
    refine ⟨fun h => ?_, fun h => by exfalso; omega⟩
    have e : (32 : Int) = f (a + ((5 : Nat) : Int)) := h.2 5 (by omega)
    omega
theorem spw_12 {f : Int → Int} {a : Int} {z : Nat} (hz : 1 ≤ z ∧ z ≤ 6) (hl : ∀ j : Nat, j < z → 65 ≤ f (a + (j : Int)) ∧ f (a + (j : Int)) ≤ 122) : (wB (84 + z) = 32 ∧ ∀ j : Nat, j < z → wB (84 + j) = f (a + (j : Int))) ↔ ltF f a z = 818583781 := by
  rcases (show z = 1 ∨ z = 2 ∨ z = 3 ∨ z = 4 ∨ z = 5 ∨ z = 6 by omega) with rfl | rfl | rfl | rfl | rfl | rfl
  · have q0 := hl 0 (by omega)
    show _ ↔ (64 * 0 + f (a + ((0 : Nat) : Int)) - 64) = _
    exact ⟨fun h => absurd h.1 (by decide), fun h => by exfalso; omega⟩
  · have q0 := hl 0 (by omega); have q1 := hl 1 (by omega)
    show _ ↔ (64 * (64 * 0 + f (a + ((0 : Nat) : Int)) - 64) + f (a + ((1 : Nat) : Int)) - 64) = _
    exact ⟨fun h => absurd h.1 (by decide), fun h => by exfalso; omega⟩
  · have q0 := hl 0 (by omega); have q1 := hl 1 (by omega); have q2 := hl 2 (by omega)
    show _ ↔ (64 * (64 * (64 * 0 + f (a + ((0 : Nat) : Int)) - 64) + f (a + ((1 : Nat) : Int)) - 64) + f (a + ((2 : Nat) : Int)) - 64) = _
    exact ⟨fun h => absurd h.1 (by decide), fun h => by exfalso; omega⟩
  · have q0 := hl 0 (by omega); have q1 := hl 1 (by omega); have q2 := hl 2 (by omega); have q3 := hl 3 (by omega)
    show _ ↔ (64 * (64 * (64 * (64 * 0 + f (a + ((0 : Nat) : Int)) - 64) + f (a + ((1 : Nat) : Int)) - 64) + f (a + ((2 : Nat) : Int)) - 64) + f (a + ((3 : Nat) : Int)) - 64) = _
    exact ⟨fun h => absurd h.1 (by decide), fun h => by exfalso; omega⟩
  · have q0 := hl 0 (by omega); have q1 := hl 1 (by omega); have q2 := hl 2 (by omega); have q3 := hl 3 (by omega); have q4 := hl 4 (by omega)
    show _ ↔ (64 * (64 * (64 * (64 * (64 * 0 + f (a + ((0 : Nat) : Int)) - 64) + f (a + ((1 : Nat) : Int)) - 64) + f (a + ((2 : Nat) : Int)) - 64) + f (a + ((3 : Nat) : Int)) - 64) + f (a + ((4 : Nat) : Int)) - 64) = _
    refine ⟨fun h => ?_, fun h => ⟨rfl, fun j hj => ?_⟩⟩
    · have e0 : (112 : Int) = f (a + ((0 : Nat) : Int)) := h.2 0 (by omega)
      have e1 : (114 : Int) = f (a + ((1 : Nat) : Int)) := h.2 1 (by omega)
      have e2 : (105 : Int) = f (a + ((2 : Nat) : Int)) := h.2 2 (by omega)
      have e3 : (99 : Int) = f (a + ((3 : Nat) : Int)) := h.2 3 (by omega)
      have e4 : (101 : Int) = f (a + ((4 : Nat) : Int)) := h.2 4 (by omega)
      omega
    · rcases (show j = 0 ∨ j = 1 ∨ j = 2 ∨ j = 3 ∨ j = 4 by omega) with rfl | rfl | rfl | rfl | rfl
      · show (112 : Int) = _
        omega
      · show (114 : Int) = _
        omega
      · show (105 : Int) = _
        omega
      · show (99 : Int) = _
        omega
      · show (101 : Int) = _
        omega
  · have q0 := hl 0 (by omega); have q1 := hl 1 (by omega); have q2 := hl 2 (by omega); have q3 := hl 3 (by omega); have q4 := hl 4 (by omega); have q5 := hl 5 (by omega)
    show _ ↔ (64 * (64 * (64 * (64 * (64 * (64 * 0 + f (a + ((0 : Nat) : Int)) - 64) + f (a + ((1 : Nat) : Int)) - 64) + f (a + ((2 : Nat) : Int)) - 64) + f (a + ((3 : Nat) : Int)) - 64) + f (a + ((4 : Nat) : Int)) - 64) + f (a + ((5 : Nat) : Int)) - 64) = _
    refine ⟨fun h => ?_, fun h => by exfalso; omega⟩
    have e : (32 : Int) = f (a + ((5 : Nat) : Int)) := h.2 5 (by omega)
    omega
theorem spw_13 {f : Int → Int} {a : Int} {z : Nat} (hz : 1 ≤ z ∧ z ≤ 6) (hl : ∀ j : Nat, j < z → 65 ≤ f (a + (j : Int)) ∧ f (a + (j : Int)) ≤ 122) : (wB (91 + z) = 32 ∧ ∀ j : Nat, j < z → wB (91 + j) = f (a + (j : Int))) ↔ ltF f a z = 137701 := by
  rcases (show z = 1 ∨ z = 2 ∨ z = 3 ∨ z = 4 ∨ z = 5 ∨ z = 6 by omega) with rfl | rfl | rfl | rfl | rfl | rfl
  · have q0 := hl 0 (by omega)
    show _ ↔ (64 * 0 + f (a + ((0 : Nat) : Int)) - 64) = _
    exact ⟨fun h => absurd h.1 (by decide), fun h => by exfalso; omega⟩
  · have q0 := hl 0 (by omega); have q1 := hl 1 (by omega)
    show _ ↔ (64 * (64 * 0 + f (a + ((0 : Nat) : Int)) - 64) + f (a + ((1 : Nat) : Int)) - 64) = _
    exact ⟨fun h => absurd h.1 (by decide), fun h => by exfalso; omega⟩
  · have q0 := hl 0 (by omega); have q1 := hl 1 (by omega); have q2 := hl 2 (by omega)
    show _ ↔ (64 * (64 * (64 * 0 + f (a + ((0 : Nat) : Int)) - 64) + f (a + ((1 : Nat) : Int)) - 64) + f (a + ((2 : Nat) : Int)) - 64) = _
    refine ⟨fun h => ?_, fun h => ⟨rfl, fun j hj => ?_⟩⟩
    · have e0 : (97 : Int) = f (a + ((0 : Nat) : Int)) := h.2 0 (by omega)
      have e1 : (103 : Int) = f (a + ((1 : Nat) : Int)) := h.2 1 (by omega)
      have e2 : (101 : Int) = f (a + ((2 : Nat) : Int)) := h.2 2 (by omega)
      omega
    · rcases (show j = 0 ∨ j = 1 ∨ j = 2 by omega) with rfl | rfl | rfl
      · show (97 : Int) = _
        omega
      · show (103 : Int) = _
        omega
      · show (101 : Int) = _
        omega
  · have q0 := hl 0 (by omega); have q1 := hl 1 (by omega); have q2 := hl 2 (by omega); have q3 := hl 3 (by omega)
    show _ ↔ (64 * (64 * (64 * (64 * 0 + f (a + ((0 : Nat) : Int)) - 64) + f (a + ((1 : Nat) : Int)) - 64) + f (a + ((2 : Nat) : Int)) - 64) + f (a + ((3 : Nat) : Int)) - 64) = _
    refine ⟨fun h => ?_, fun h => by exfalso; omega⟩
    have e : (32 : Int) = f (a + ((3 : Nat) : Int)) := h.2 3 (by omega)
    omega
  · have q0 := hl 0 (by omega); have q1 := hl 1 (by omega); have q2 := hl 2 (by omega); have q3 := hl 3 (by omega); have q4 := hl 4 (by omega)
    show _ ↔ (64 * (64 * (64 * (64 * (64 * 0 + f (a + ((0 : Nat) : Int)) - 64) + f (a + ((1 : Nat) : Int)) - 64) + f (a + ((2 : Nat) : Int)) - 64) + f (a + ((3 : Nat) : Int)) - 64) + f (a + ((4 : Nat) : Int)) - 64) = _
    refine ⟨fun h => ?_, fun h => by exfalso; omega⟩
    have e : (32 : Int) = f (a + ((3 : Nat) : Int)) := h.2 3 (by omega)
    omega
  · have q0 := hl 0 (by omega); have q1 := hl 1 (by omega); have q2 := hl 2 (by omega); have q3 := hl 3 (by omega); have q4 := hl 4 (by omega); have q5 := hl 5 (by omega)
    show _ ↔ (64 * (64 * (64 * (64 * (64 * (64 * 0 + f (a + ((0 : Nat) : Int)) - 64) + f (a + ((1 : Nat) : Int)) - 64) + f (a + ((2 : Nat) : Int)) - 64) + f (a + ((3 : Nat) : Int)) - 64) + f (a + ((4 : Nat) : Int)) - 64) + f (a + ((5 : Nat) : Int)) - 64) = _
    refine ⟨fun h => ?_, fun h => by exfalso; omega⟩
    have e : (32 : Int) = f (a + ((3 : Nat) : Int)) := h.2 3 (by omega)
    omega
theorem spw_14 {f : Int → Int} {a : Int} {z : Nat} (hz : 1 ≤ z ∧ z ≤ 6) (hl : ∀ j : Nat, j < z → 65 ≤ f (a + (j : Int)) ∧ f (a + (j : Int)) ≤ 122) : (wB (98 + z) = 32 ∧ ∀ j : Nat, j < z → wB (98 + j) = f (a + (j : Int))) ↔ ltF f a z = 885659941 := by
  rcases (show z = 1 ∨ z = 2 ∨ z = 3 ∨ z = 4 ∨ z = 5 ∨ z = 6 by omega) with rfl | rfl | rfl | rfl | rfl | rfl
  · have q0 := hl 0 (by omega)
    show _ ↔ (64 * 0 + f (a + ((0 : Nat) : Int)) - 64) = _
    exact ⟨fun h => absurd h.1 (by decide), fun h => by exfalso; omega⟩
  · have q0 := hl 0 (by omega); have q1 := hl 1 (by omega)
    show _ ↔ (64 * (64 * 0 + f (a + ((0 : Nat) : Int)) - 64) + f (a + ((1 : Nat) : Int)) - 64) = _
    exact ⟨fun h => absurd h.1 (by decide), fun h => by exfalso; omega⟩
  · have q0 := hl 0 (by omega); have q1 := hl 1 (by omega); have q2 := hl 2 (by omega)
    show _ ↔ (64 * (64 * (64 * 0 + f (a + ((0 : Nat) : Int)) - 64) + f (a + ((1 : Nat) : Int)) - 64) + f (a + ((2 : Nat) : Int)) - 64) = _
    exact ⟨fun h => absurd h.1 (by decide), fun h => by exfalso; omega⟩
  · have q0 := hl 0 (by omega); have q1 := hl 1 (by omega); have q2 := hl 2 (by omega); have q3 := hl 3 (by omega)
    show _ ↔ (64 * (64 * (64 * (64 * 0 + f (a + ((0 : Nat) : Int)) - 64) + f (a + ((1 : Nat) : Int)) - 64) + f (a + ((2 : Nat) : Int)) - 64) + f (a + ((3 : Nat) : Int)) - 64) = _
    exact ⟨fun h => absurd h.1 (by decide), fun h => by exfalso; omega⟩
  · have q0 := hl 0 (by omega); have q1 := hl 1 (by omega); have q2 := hl 2 (by omega); have q3 := hl 3 (by omega); have q4 := hl 4 (by omega)
    show _ ↔ (64 * (64 * (64 * (64 * (64 * 0 + f (a + ((0 : Nat) : Int)) - 64) + f (a + ((1 : Nat) : Int)) - 64) + f (a + ((2 : Nat) : Int)) - 64) + f (a + ((3 : Nat) : Int)) - 64) + f (a + ((4 : Nat) : Int)) - 64) = _
    refine ⟨fun h => ?_, fun h => ⟨rfl, fun j hj => ?_⟩⟩
    · have e0 : (116 : Int) = f (a + ((0 : Nat) : Int)) := h.2 0 (by omega)
      have e1 : (114 : Int) = f (a + ((1 : Nat) : Int)) := h.2 1 (by omega)
      have e2 : (97 : Int) = f (a + ((2 : Nat) : Int)) := h.2 2 (by omega)
      have e3 : (100 : Int) = f (a + ((3 : Nat) : Int)) := h.2 3 (by omega)
      have e4 : (101 : Int) = f (a + ((4 : Nat) : Int)) := h.2 4 (by omega)
      omega
    · rcases (show j = 0 ∨ j = 1 ∨ j = 2 ∨ j = 3 ∨ j = 4 by omega) with rfl | rfl | rfl | rfl | rfl
      · show (116 : Int) = _
        omega
      · show (114 : Int) = _
        omega
      · show (97 : Int) = _
        omega
      · show (100 : Int) = _
        omega
      · show (101 : Int) = _
        omega
  · have q0 := hl 0 (by omega); have q1 := hl 1 (by omega); have q2 := hl 2 (by omega); have q3 := hl 3 (by omega); have q4 := hl 4 (by omega); have q5 := hl 5 (by omega)
    show _ ↔ (64 * (64 * (64 * (64 * (64 * (64 * 0 + f (a + ((0 : Nat) : Int)) - 64) + f (a + ((1 : Nat) : Int)) - 64) + f (a + ((2 : Nat) : Int)) - 64) + f (a + ((3 : Nat) : Int)) - 64) + f (a + ((4 : Nat) : Int)) - 64) + f (a + ((5 : Nat) : Int)) - 64) = _
    refine ⟨fun h => ?_, fun h => by exfalso; omega⟩
    have e : (32 : Int) = f (a + ((5 : Nat) : Int)) := h.2 5 (by omega)
    omega
theorem spw_15 {f : Int → Int} {a : Int} {z : Nat} (hz : 1 ≤ z ∧ z ≤ 6) (hl : ∀ j : Nat, j < z → 65 ≤ f (a + (j : Int)) ∧ f (a + (j : Int)) ≤ 122) : (wB (105 + z) = 32 ∧ ∀ j : Nat, j < z → wB (105 + j) = f (a + (j : Int))) ↔ ltF f a z = 11671787 := by
  rcases (show z = 1 ∨ z = 2 ∨ z = 3 ∨ z = 4 ∨ z = 5 ∨ z = 6 by omega) with rfl | rfl | rfl | rfl | rfl | rfl
  · have q0 := hl 0 (by omega)
    show _ ↔ (64 * 0 + f (a + ((0 : Nat) : Int)) - 64) = _
    exact ⟨fun h => absurd h.1 (by decide), fun h => by exfalso; omega⟩
  · have q0 := hl 0 (by omega); have q1 := hl 1 (by omega)
    show _ ↔ (64 * (64 * 0 + f (a + ((0 : Nat) : Int)) - 64) + f (a + ((1 : Nat) : Int)) - 64) = _
    exact ⟨fun h => absurd h.1 (by decide), fun h => by exfalso; omega⟩
  · have q0 := hl 0 (by omega); have q1 := hl 1 (by omega); have q2 := hl 2 (by omega)
    show _ ↔ (64 * (64 * (64 * 0 + f (a + ((0 : Nat) : Int)) - 64) + f (a + ((1 : Nat) : Int)) - 64) + f (a + ((2 : Nat) : Int)) - 64) = _
    exact ⟨fun h => absurd h.1 (by decide), fun h => by exfalso; omega⟩
  · have q0 := hl 0 (by omega); have q1 := hl 1 (by omega); have q2 := hl 2 (by omega); have q3 := hl 3 (by omega)
    show _ ↔ (64 * (64 * (64 * (64 * 0 + f (a + ((0 : Nat) : Int)) - 64) + f (a + ((1 : Nat) : Int)) - 64) + f (a + ((2 : Nat) : Int)) - 64) + f (a + ((3 : Nat) : Int)) - 64) = _
    refine ⟨fun h => ?_, fun h => ⟨rfl, fun j hj => ?_⟩⟩
    · have e0 : (108 : Int) = f (a + ((0 : Nat) : Int)) := h.2 0 (by omega)
      have e1 : (97 : Int) = f (a + ((1 : Nat) : Int)) := h.2 1 (by omega)
      have e2 : (99 : Int) = f (a + ((2 : Nat) : Int)) := h.2 2 (by omega)
      have e3 : (107 : Int) = f (a + ((3 : Nat) : Int)) := h.2 3 (by omega)
      omega
    · rcases (show j = 0 ∨ j = 1 ∨ j = 2 ∨ j = 3 by omega) with rfl | rfl | rfl | rfl
      · show (108 : Int) = _
        omega
      · show (97 : Int) = _
        omega
      · show (99 : Int) = _
        omega
      · show (107 : Int) = _
        omega
  · have q0 := hl 0 (by omega); have q1 := hl 1 (by omega); have q2 := hl 2 (by omega); have q3 := hl 3 (by omega); have q4 := hl 4 (by omega)
    show _ ↔ (64 * (64 * (64 * (64 * (64 * 0 + f (a + ((0 : Nat) : Int)) - 64) + f (a + ((1 : Nat) : Int)) - 64) + f (a + ((2 : Nat) : Int)) - 64) + f (a + ((3 : Nat) : Int)) - 64) + f (a + ((4 : Nat) : Int)) - 64) = _
    refine ⟨fun h => ?_, fun h => by exfalso; omega⟩
    have e : (32 : Int) = f (a + ((4 : Nat) : Int)) := h.2 4 (by omega)
    omega
  · have q0 := hl 0 (by omega); have q1 := hl 1 (by omega); have q2 := hl 2 (by omega); have q3 := hl 3 (by omega); have q4 := hl 4 (by omega); have q5 := hl 5 (by omega)
    show _ ↔ (64 * (64 * (64 * (64 * (64 * (64 * 0 + f (a + ((0 : Nat) : Int)) - 64) + f (a + ((1 : Nat) : Int)) - 64) + f (a + ((2 : Nat) : Int)) - 64) + f (a + ((3 : Nat) : Int)) - 64) + f (a + ((4 : Nat) : Int)) - 64) + f (a + ((5 : Nat) : Int)) - 64) = _
    refine ⟨fun h => ?_, fun h => by exfalso; omega⟩
    have e : (32 : Int) = f (a + ((4 : Nat) : Int)) := h.2 4 (by omega)
    omega
theorem spw_16 {f : Int → Int} {a : Int} {z : Nat} (hz : 1 ≤ z ∧ z ≤ 6) (hl : ∀ j : Nat, j < z → 65 ≤ f (a + (j : Int)) ∧ f (a + (j : Int)) ≤ 122) : (wB (112 + z) = 32 ∧ ∀ j : Nat, j < z → wB (112 + j) = f (a + (j : Int))) ↔ ltF f a z = 3058 := by
  rcases (show z = 1 ∨ z = 2 ∨ z = 3 ∨ z = 4 ∨ z = 5 ∨ z = 6 by omega) with rfl | rfl | rfl | rfl | rfl | rfl
  · have q0 := hl 0 (by omega)
    show _ ↔ (64 * 0 + f (a + ((0 : Nat) : Int)) - 64) = _
    exact ⟨fun h => absurd h.1 (by decide), fun h => by exfalso; omega⟩
  · have q0 := hl 0 (by omega); have q1 := hl 1 (by omega)
    show _ ↔ (64 * (64 * 0 + f (a + ((0 : Nat) : Int)) - 64) + f (a + ((1 : Nat) : Int)) - 64) = _
    refine ⟨fun h => ?_, fun h => ⟨rfl, fun j hj => ?_⟩⟩
    · have e0 : (111 : Int) = f (a + ((0 : Nat) : Int)) := h.2 0 (by omega)
      have e1 : (114 : Int) = f (a + ((1 : Nat) : Int)) := h.2 1 (by omega)
      omega
    · rcases (show j = 0 ∨ j = 1 by omega) with rfl | rfl
      · show (111 : Int) = _
        omega
      · show (114 : Int) = _
        omega
  · have q0 := hl 0 (by omega); have q1 := hl 1 (by omega); have q2 := hl 2 (by omega)
    show _ ↔ (64 * (64 * (64 * 0 + f (a + ((0 : Nat) : Int)) - 64) + f (a + ((1 : Nat) : Int)) - 64) + f (a + ((2 : Nat) : Int)) - 64) = _
    refine ⟨fun h => ?_, fun h => by exfalso; omega⟩
    have e : (32 : Int) = f (a + ((2 : Nat) : Int)) := h.2 2 (by omega)
    omega
  · have q0 := hl 0 (by omega); have q1 := hl 1 (by omega); have q2 := hl 2 (by omega); have q3 := hl 3 (by omega)
    show _ ↔ (64 * (64 * (64 * (64 * 0 + f (a + ((0 : Nat) : Int)) - 64) + f (a + ((1 : Nat) : Int)) - 64) + f (a + ((2 : Nat) : Int)) - 64) + f (a + ((3 : Nat) : Int)) - 64) = _
    refine ⟨fun h => ?_, fun h => by exfalso; omega⟩
    have e : (32 : Int) = f (a + ((2 : Nat) : Int)) := h.2 2 (by omega)
    omega
  · have q0 := hl 0 (by omega); have q1 := hl 1 (by omega); have q2 := hl 2 (by omega); have q3 := hl 3 (by omega); have q4 := hl 4 (by omega)
    show _ ↔ (64 * (64 * (64 * (64 * (64 * 0 + f (a + ((0 : Nat) : Int)) - 64) + f (a + ((1 : Nat) : Int)) - 64) + f (a + ((2 : Nat) : Int)) - 64) + f (a + ((3 : Nat) : Int)) - 64) + f (a + ((4 : Nat) : Int)) - 64) = _
    refine ⟨fun h => ?_, fun h => by exfalso; omega⟩
    have e : (32 : Int) = f (a + ((2 : Nat) : Int)) := h.2 2 (by omega)
    omega
  · have q0 := hl 0 (by omega); have q1 := hl 1 (by omega); have q2 := hl 2 (by omega); have q3 := hl 3 (by omega); have q4 := hl 4 (by omega); have q5 := hl 5 (by omega)
    show _ ↔ (64 * (64 * (64 * (64 * (64 * (64 * 0 + f (a + ((0 : Nat) : Int)) - 64) + f (a + ((1 : Nat) : Int)) - 64) + f (a + ((2 : Nat) : Int)) - 64) + f (a + ((3 : Nat) : Int)) - 64) + f (a + ((4 : Nat) : Int)) - 64) + f (a + ((5 : Nat) : Int)) - 64) = _
    refine ⟨fun h => ?_, fun h => by exfalso; omega⟩
    have e : (32 : Int) = f (a + ((2 : Nat) : Int)) := h.2 2 (by omega)
    omega
theorem spw_17 {f : Int → Int} {a : Int} {z : Nat} (hz : 1 ≤ z ∧ z ≤ 6) (hl : ∀ j : Nat, j < z → 65 ≤ f (a + (j : Int)) ∧ f (a + (j : Int)) ≤ 122) : (wB (119 + z) = 32 ∧ ∀ j : Nat, j < z → wB (119 + j) = f (a + (j : Int))) ↔ ltF f a z = 138148 := by
  rcases (show z = 1 ∨ z = 2 ∨ z = 3 ∨ z = 4 ∨ z = 5 ∨ z = 6 by omega) with rfl | rfl | rfl | rfl | rfl | rfl
  · have q0 := hl 0 (by omega)
    show _ ↔ (64 * 0 + f (a + ((0 : Nat) : Int)) - 64) = _
    exact ⟨fun h => absurd h.1 (by decide), fun h => by exfalso; omega⟩
  · have q0 := hl 0 (by omega); have q1 := hl 1 (by omega)
    show _ ↔ (64 * (64 * 0 + f (a + ((0 : Nat) : Int)) - 64) + f (a + ((1 : Nat) : Int)) - 64) = _
    exact ⟨fun h => absurd h.1 (by decide), fun h => by exfalso; omega⟩
  · have q0 := hl 0 (by omega); have q1 := hl 1 (by omega); have q2 := hl 2 (by omega)
    show _ ↔ (64 * (64 * (64 * 0 + f (a + ((0 : Nat) : Int)) - 64) + f (a + ((1 : Nat) : Int)) - 64) + f (a + ((2 : Nat) : Int)) - 64) = _
    refine ⟨fun h => ?_, fun h => ⟨rfl, fun j hj => ?_⟩⟩
    · have e0 : (97 : Int) = f (a + ((0 : Nat) : Int)) := h.2 0 (by omega)
      have e1 : (110 : Int) = f (a + ((1 : Nat) : Int)) := h.2 1 (by omega)
      have e2 : (100 : Int) = f (a + ((2 : Nat) : Int)) := h.2 2 (by omega)
      omega
    · rcases (show j = 0 ∨ j = 1 ∨ j = 2 by omega) with rfl | rfl | rfl
      · show (97 : Int) = _
        omega
      · show (110 : Int) = _
        omega
      · show (100 : Int) = _
        omega
  · have q0 := hl 0 (by omega); have q1 := hl 1 (by omega); have q2 := hl 2 (by omega); have q3 := hl 3 (by omega)
    show _ ↔ (64 * (64 * (64 * (64 * 0 + f (a + ((0 : Nat) : Int)) - 64) + f (a + ((1 : Nat) : Int)) - 64) + f (a + ((2 : Nat) : Int)) - 64) + f (a + ((3 : Nat) : Int)) - 64) = _
    refine ⟨fun h => ?_, fun h => by exfalso; omega⟩
    have e : (32 : Int) = f (a + ((3 : Nat) : Int)) := h.2 3 (by omega)
    omega
  · have q0 := hl 0 (by omega); have q1 := hl 1 (by omega); have q2 := hl 2 (by omega); have q3 := hl 3 (by omega); have q4 := hl 4 (by omega)
    show _ ↔ (64 * (64 * (64 * (64 * (64 * 0 + f (a + ((0 : Nat) : Int)) - 64) + f (a + ((1 : Nat) : Int)) - 64) + f (a + ((2 : Nat) : Int)) - 64) + f (a + ((3 : Nat) : Int)) - 64) + f (a + ((4 : Nat) : Int)) - 64) = _
    refine ⟨fun h => ?_, fun h => by exfalso; omega⟩
    have e : (32 : Int) = f (a + ((3 : Nat) : Int)) := h.2 3 (by omega)
    omega
  · have q0 := hl 0 (by omega); have q1 := hl 1 (by omega); have q2 := hl 2 (by omega); have q3 := hl 3 (by omega); have q4 := hl 4 (by omega); have q5 := hl 5 (by omega)
    show _ ↔ (64 * (64 * (64 * (64 * (64 * (64 * 0 + f (a + ((0 : Nat) : Int)) - 64) + f (a + ((1 : Nat) : Int)) - 64) + f (a + ((2 : Nat) : Int)) - 64) + f (a + ((3 : Nat) : Int)) - 64) + f (a + ((4 : Nat) : Int)) - 64) + f (a + ((5 : Nat) : Int)) - 64) = _
    refine ⟨fun h => ?_, fun h => by exfalso; omega⟩
    have e : (32 : Int) = f (a + ((3 : Nat) : Int)) := h.2 3 (by omega)
    omega
theorem spw_18 {f : Int → Int} {a : Int} {z : Nat} (hz : 1 ≤ z ∧ z ≤ 6) (hl : ∀ j : Nat, j < z → 65 ≤ f (a + (j : Int)) ∧ f (a + (j : Int)) ≤ 122) : (wB (126 + z) = 32 ∧ ∀ j : Nat, j < z → wB (126 + j) = f (a + (j : Int))) ↔ ltF f a z = 191476 := by
  rcases (show z = 1 ∨ z = 2 ∨ z = 3 ∨ z = 4 ∨ z = 5 ∨ z = 6 by omega) with rfl | rfl | rfl | rfl | rfl | rfl
  · have q0 := hl 0 (by omega)
    show _ ↔ (64 * 0 + f (a + ((0 : Nat) : Int)) - 64) = _
    exact ⟨fun h => absurd h.1 (by decide), fun h => by exfalso; omega⟩
  · have q0 := hl 0 (by omega); have q1 := hl 1 (by omega)
    show _ ↔ (64 * (64 * 0 + f (a + ((0 : Nat) : Int)) - 64) + f (a + ((1 : Nat) : Int)) - 64) = _
    exact ⟨fun h => absurd h.1 (by decide), fun h => by exfalso; omega⟩
  · have q0 := hl 0 (by omega); have q1 := hl 1 (by omega); have q2 := hl 2 (by omega)
    show _ ↔ (64 * (64 * (64 * 0 + f (a + ((0 : Nat) : Int)) - 64) + f (a + ((1 : Nat) : Int)) - 64) + f (a + ((2 : Nat) : Int)) - 64) = _
    refine ⟨fun h => ?_, fun h => ⟨rfl, fun j hj => ?_⟩⟩
    · have e0 : (110 : Int) = f (a + ((0 : Nat) : Int)) := h.2 0 (by omega)
      have e1 : (111 : Int) = f (a + ((1 : Nat) : Int)) := h.2 1 (by omega)
      have e2 : (116 : Int) = f (a + ((2 : Nat) : Int)) := h.2 2 (by omega)
      omega
    · rcases (show j = 0 ∨ j = 1 ∨ j = 2 by omega) with rfl | rfl | rfl
      · show (110 : Int) = _
        omega
      · show (111 : Int) = _
        omega
      · show (116 : Int) = _
        omega
  · have q0 := hl 0 (by omega); have q1 := hl 1 (by omega); have q2 := hl 2 (by omega); have q3 := hl 3 (by omega)
    show _ ↔ (64 * (64 * (64 * (64 * 0 + f (a + ((0 : Nat) : Int)) - 64) + f (a + ((1 : Nat) : Int)) - 64) + f (a + ((2 : Nat) : Int)) - 64) + f (a + ((3 : Nat) : Int)) - 64) = _
    refine ⟨fun h => ?_, fun h => by exfalso; omega⟩
    have e : (32 : Int) = f (a + ((3 : Nat) : Int)) := h.2 3 (by omega)
    omega
  · have q0 := hl 0 (by omega); have q1 := hl 1 (by omega); have q2 := hl 2 (by omega); have q3 := hl 3 (by omega); have q4 := hl 4 (by omega)
    show _ ↔ (64 * (64 * (64 * (64 * (64 * 0 + f (a + ((0 : Nat) : Int)) - 64) + f (a + ((1 : Nat) : Int)) - 64) + f (a + ((2 : Nat) : Int)) - 64) + f (a + ((3 : Nat) : Int)) - 64) + f (a + ((4 : Nat) : Int)) - 64) = _
    refine ⟨fun h => ?_, fun h => by exfalso; omega⟩
    have e : (32 : Int) = f (a + ((3 : Nat) : Int)) := h.2 3 (by omega)
    omega
  · have q0 := hl 0 (by omega); have q1 := hl 1 (by omega); have q2 := hl 2 (by omega); have q3 := hl 3 (by omega); have q4 := hl 4 (by omega); have q5 := hl 5 (by omega)
    show _ ↔ (64 * (64 * (64 * (64 * (64 * (64 * 0 + f (a + ((0 : Nat) : Int)) - 64) + f (a + ((1 : Nat) : Int)) - 64) + f (a + ((2 : Nat) : Int)) - 64) + f (a + ((3 : Nat) : Int)) - 64) + f (a + ((4 : Nat) : Int)) - 64) + f (a + ((5 : Nat) : Int)) - 64) = _
    refine ⟨fun h => ?_, fun h => by exfalso; omega⟩
    have e : (32 : Int) = f (a + ((3 : Nat) : Int)) := h.2 3 (by omega)
    omega
theorem spw_19 {f : Int → Int} {a : Int} {z : Nat} (hz : 1 ≤ z ∧ z ≤ 6) (hl : ∀ j : Nat, j < z → 65 ≤ f (a + (j : Int)) ∧ f (a + (j : Int)) ≤ 122) : (wB (133 + z) = 32 ∧ ∀ j : Nat, j < z → wB (133 + j) = f (a + (j : Int))) ↔ ltF f a z = 186990 := by
  rcases (show z = 1 ∨ z = 2 ∨ z = 3 ∨ z = 4 ∨ z = 5 ∨ z = 6 by omega) with rfl | rfl | rfl | rfl | rfl | rfl
  · have q0 := hl 0 (by omega)
    show _ ↔ (64 * 0 + f (a + ((0 : Nat) : Int)) - 64) = _
    exact ⟨fun h => absurd h.1 (by decide), fun h => by exfalso; omega⟩
  · have q0 := hl 0 (by omega); have q1 := hl 1 (by omega)
    show _ ↔ (64 * (64 * 0 + f (a + ((0 : Nat) : Int)) - 64) + f (a + ((1 : Nat) : Int)) - 64) = _
    exact ⟨fun h => absurd h.1 (by decide), fun h => by exfalso; omega⟩
  · have q0 := hl 0 (by omega); have q1 := hl 1 (by omega); have q2 := hl 2 (by omega)
    show _ ↔ (64 * (64 * (64 * 0 + f (a + ((0 : Nat) : Int)) - 64) + f (a + ((1 : Nat) : Int)) - 64) + f (a + ((2 : Nat) : Int)) - 64) = _
    refine ⟨fun h => ?_, fun h => ⟨rfl, fun j hj => ?_⟩⟩
    · have e0 : (109 : Int) = f (a + ((0 : Nat) : Int)) := h.2 0 (by omega)
      have e1 : (105 : Int) = f (a + ((1 : Nat) : Int)) := h.2 1 (by omega)
      have e2 : (110 : Int) = f (a + ((2 : Nat) : Int)) := h.2 2 (by omega)
      omega
    · rcases (show j = 0 ∨ j = 1 ∨ j = 2 by omega) with rfl | rfl | rfl
      · show (109 : Int) = _
        omega
      · show (105 : Int) = _
        omega
      · show (110 : Int) = _
        omega
  · have q0 := hl 0 (by omega); have q1 := hl 1 (by omega); have q2 := hl 2 (by omega); have q3 := hl 3 (by omega)
    show _ ↔ (64 * (64 * (64 * (64 * 0 + f (a + ((0 : Nat) : Int)) - 64) + f (a + ((1 : Nat) : Int)) - 64) + f (a + ((2 : Nat) : Int)) - 64) + f (a + ((3 : Nat) : Int)) - 64) = _
    refine ⟨fun h => ?_, fun h => by exfalso; omega⟩
    have e : (32 : Int) = f (a + ((3 : Nat) : Int)) := h.2 3 (by omega)
    omega
  · have q0 := hl 0 (by omega); have q1 := hl 1 (by omega); have q2 := hl 2 (by omega); have q3 := hl 3 (by omega); have q4 := hl 4 (by omega)
    show _ ↔ (64 * (64 * (64 * (64 * (64 * 0 + f (a + ((0 : Nat) : Int)) - 64) + f (a + ((1 : Nat) : Int)) - 64) + f (a + ((2 : Nat) : Int)) - 64) + f (a + ((3 : Nat) : Int)) - 64) + f (a + ((4 : Nat) : Int)) - 64) = _
    refine ⟨fun h => ?_, fun h => by exfalso; omega⟩
    have e : (32 : Int) = f (a + ((3 : Nat) : Int)) := h.2 3 (by omega)
    omega
  · have q0 := hl 0 (by omega); have q1 := hl 1 (by omega); have q2 := hl 2 (by omega); have q3 := hl 3 (by omega); have q4 := hl 4 (by omega); have q5 := hl 5 (by omega)
    show _ ↔ (64 * (64 * (64 * (64 * (64 * (64 * 0 + f (a + ((0 : Nat) : Int)) - 64) + f (a + ((1 : Nat) : Int)) - 64) + f (a + ((2 : Nat) : Int)) - 64) + f (a + ((3 : Nat) : Int)) - 64) + f (a + ((4 : Nat) : Int)) - 64) + f (a + ((5 : Nat) : Int)) - 64) = _
    refine ⟨fun h => ?_, fun h => by exfalso; omega⟩
    have e : (32 : Int) = f (a + ((3 : Nat) : Int)) := h.2 3 (by omega)
    omega
theorem spw_20 {f : Int → Int} {a : Int} {z : Nat} (hz : 1 ≤ z ∧ z ≤ 6) (hl : ∀ j : Nat, j < z → 65 ≤ f (a + (j : Int)) ∧ f (a + (j : Int)) ≤ 122) : (wB (140 + z) = 32 ∧ ∀ j : Nat, j < z → wB (140 + j) = f (a + (j : Int))) ↔ ltF f a z = 186488 := by
  rcases (show z = 1 ∨ z = 2 ∨ z = 3 ∨ z = 4 ∨ z = 5 ∨ z = 6 by omega) with rfl | rfl | rfl | rfl | rfl | rfl
  · have q0 := hl 0 (by omega)
    show _ ↔ (64 * 0 + f (a + ((0 : Nat) : Int)) - 64) = _
    exact ⟨fun h => absurd h.1 (by decide), fun h => by exfalso; omega⟩
  · have q0 := hl 0 (by omega); have q1 := hl 1 (by omega)
    show _ ↔ (64 * (64 * 0 + f (a + ((0 : Nat) : Int)) - 64) + f (a + ((1 : Nat) : Int)) - 64) = _
    exact ⟨fun h => absurd h.1 (by decide), fun h => by exfalso; omega⟩
  · have q0 := hl 0 (by omega); have q1 := hl 1 (by omega); have q2 := hl 2 (by omega)
    show _ ↔ (64 * (64 * (64 * 0 + f (a + ((0 : Nat) : Int)) - 64) + f (a + ((1 : Nat) : Int)) - 64) + f (a + ((2 : Nat) : Int)) - 64) = _
    refine ⟨fun h => ?_, fun h => ⟨rfl, fun j hj => ?_⟩⟩
    · have e0 : (109 : Int) = f (a + ((0 : Nat) : Int)) := h.2 0 (by omega)
      have e1 : (97 : Int) = f (a + ((1 : Nat) : Int)) := h.2 1 (by omega)
      have e2 : (120 : Int) = f (a + ((2 : Nat) : Int)) := h.2 2 (by omega)
      omega
    · rcases (show j = 0 ∨ j = 1 ∨ j = 2 by omega) with rfl | rfl | rfl
      · show (109 : Int) = _
        omega
      · show (97 : Int) = _
        omega
      · show (120 : Int) = _
        omega
  · have q0 := hl 0 (by omega); have q1 := hl 1 (by omega); have q2 := hl 2 (by omega); have q3 := hl 3 (by omega)
    show _ ↔ (64 * (64 * (64 * (64 * 0 + f (a + ((0 : Nat) : Int)) - 64) + f (a + ((1 : Nat) : Int)) - 64) + f (a + ((2 : Nat) : Int)) - 64) + f (a + ((3 : Nat) : Int)) - 64) = _
    refine ⟨fun h => ?_, fun h => by exfalso; omega⟩
    have e : (32 : Int) = f (a + ((3 : Nat) : Int)) := h.2 3 (by omega)
    omega
  · have q0 := hl 0 (by omega); have q1 := hl 1 (by omega); have q2 := hl 2 (by omega); have q3 := hl 3 (by omega); have q4 := hl 4 (by omega)
    show _ ↔ (64 * (64 * (64 * (64 * (64 * 0 + f (a + ((0 : Nat) : Int)) - 64) + f (a + ((1 : Nat) : Int)) - 64) + f (a + ((2 : Nat) : Int)) - 64) + f (a + ((3 : Nat) : Int)) - 64) + f (a + ((4 : Nat) : Int)) - 64) = _
    refine ⟨fun h => ?_, fun h => by exfalso; omega⟩
    have e : (32 : Int) = f (a + ((3 : Nat) : Int)) := h.2 3 (by omega)
    omega
  · have q0 := hl 0 (by omega); have q1 := hl 1 (by omega); have q2 := hl 2 (by omega); have q3 := hl 3 (by omega); have q4 := hl 4 (by omega); have q5 := hl 5 (by omega)
    show _ ↔ (64 * (64 * (64 * (64 * (64 * (64 * 0 + f (a + ((0 : Nat) : Int)) - 64) + f (a + ((1 : Nat) : Int)) - 64) + f (a + ((2 : Nat) : Int)) - 64) + f (a + ((3 : Nat) : Int)) - 64) + f (a + ((4 : Nat) : Int)) - 64) + f (a + ((5 : Nat) : Int)) - 64) = _
    refine ⟨fun h => ?_, fun h => by exfalso; omega⟩
    have e : (32 : Int) = f (a + ((3 : Nat) : Int)) := h.2 3 (by omega)
    omega
theorem wdq_0 {L : Int} : wdF wdL 0 L = 0 ↔ L = 48951077234 := by
  simp only [wdF, wdL]
  (repeat' split) <;> omega
theorem wdq_1 {L : Int} : wdF wdL 0 L = 1 ↔ L = 11689401 := by
  simp only [wdF, wdL]
  (repeat' split) <;> omega
theorem wdq_2 {L : Int} : wdF wdL 0 L = 2 ↔ L = 9050347 := by
  simp only [wdF, wdL]
  (repeat' split) <;> omega
theorem wdq_3 {L : Int} : wdF wdL 0 L = 3 ↔ L = 13584505 := by
  simp only [wdF, wdL]
  (repeat' split) <;> omega
theorem wdq_4 {L : Int} : wdF wdL 0 L = 4 ↔ L = 145520 := by
  simp only [wdF, wdL]
  (repeat' split) <;> omega
theorem wdq_5 {L : Int} : wdF wdL 0 L = 5 ↔ L = 818609126 := by
  simp only [wdF, wdL]
  (repeat' split) <;> omega
theorem wdq_6 {L : Int} : wdF wdL 0 L = 6 ↔ L = 11934891 := by
  simp only [wdF, wdL]
  (repeat' split) <;> omega
theorem wdq_7 {L : Int} : wdF wdL 0 L = 7 ↔ L = 931559795 := by
  simp only [wdF, wdL]
  (repeat' split) <;> omega
theorem wdq_8 {L : Int} : wdF wdL 0 L = 8 ↔ L = 680925491 := by
  simp only [wdF, wdL]
  (repeat' split) <;> omega
theorem wdq_9 {L : Int} : wdF wdL 0 L = 9 ↔ L = 12720740 := by
  simp only [wdF, wdL]
  (repeat' split) <;> omega
theorem wdq_10 {L : Int} : wdF wdL 0 L = 10 ↔ L = 767487272 := by
  simp only [wdF, wdL]
  (repeat' split) <;> omega
theorem wdq_11 {L : Int} : wdF wdL 0 L = 11 ↔ L = 683629747 := by
  simp only [wdF, wdL]
  (repeat' split) <;> omega
theorem wdq_12 {L : Int} : wdF wdL 0 L = 12 ↔ L = 818583781 := by
  simp only [wdF, wdL]
  (repeat' split) <;> omega
theorem wdq_13 {L : Int} : wdF wdL 0 L = 13 ↔ L = 137701 := by
  simp only [wdF, wdL]
  (repeat' split) <;> omega
theorem wdq_14 {L : Int} : wdF wdL 0 L = 14 ↔ L = 885659941 := by
  simp only [wdF, wdL]
  (repeat' split) <;> omega
theorem wdq_15 {L : Int} : wdF wdL 0 L = 15 ↔ L = 11671787 := by
  simp only [wdF, wdL]
  (repeat' split) <;> omega
theorem wdq_16 {L : Int} : wdF wdL 0 L = 16 ↔ L = 3058 := by
  simp only [wdF, wdL]
  (repeat' split) <;> omega
theorem wdq_17 {L : Int} : wdF wdL 0 L = 17 ↔ L = 138148 := by
  simp only [wdF, wdL]
  (repeat' split) <;> omega
theorem wdq_18 {L : Int} : wdF wdL 0 L = 18 ↔ L = 191476 := by
  simp only [wdF, wdL]
  (repeat' split) <;> omega
theorem wdq_19 {L : Int} : wdF wdL 0 L = 19 ↔ L = 186990 := by
  simp only [wdF, wdL]
  (repeat' split) <;> omega
theorem wdq_20 {L : Int} : wdF wdL 0 L = 20 ↔ L = 186488 := by
  simp only [wdF, wdL]
  (repeat' split) <;> omega
/-- the word w is spelt from a on, over z letters -/
theorem spelt_iff {f : Int → Int} {a : Int} {w z : Nat} (hw : w < 21) (hz : 1 ≤ z ∧ z ≤ 6) (hl : ∀ j : Nat, j < z → 65 ≤ f (a + (j : Int)) ∧ f (a + (j : Int)) ≤ 122) : (wB (7 * w + z) = 32 ∧ ∀ j : Nat, j < z → wB (7 * w + j) = f (a + (j : Int))) ↔ wdN f a z = w := by
  have e : wdN f a z = wdF wdL 0 (ltF f a z) := by
    unfold wdN
    rw [if_pos (by omega)]
    rfl
  rw [e]
  rcases (show w = 0 ∨ w = 1 ∨ w = 2 ∨ w = 3 ∨ w = 4 ∨ w = 5 ∨ w = 6 ∨ w = 7 ∨ w = 8 ∨ w = 9 ∨ w = 10 ∨ w = 11 ∨ w = 12 ∨ w = 13 ∨ w = 14 ∨ w = 15 ∨ w = 16 ∨ w = 17 ∨ w = 18 ∨ w = 19 ∨ w = 20 by omega) with rfl | rfl | rfl | rfl | rfl | rfl | rfl | rfl | rfl | rfl | rfl | rfl | rfl | rfl | rfl | rfl | rfl | rfl | rfl | rfl | rfl
  · exact (spw_0 hz hl).trans wdq_0.symm
  · exact (spw_1 hz hl).trans wdq_1.symm
  · exact (spw_2 hz hl).trans wdq_2.symm
  · exact (spw_3 hz hl).trans wdq_3.symm
  · exact (spw_4 hz hl).trans wdq_4.symm
  · exact (spw_5 hz hl).trans wdq_5.symm
  · exact (spw_6 hz hl).trans wdq_6.symm
  · exact (spw_7 hz hl).trans wdq_7.symm
  · exact (spw_8 hz hl).trans wdq_8.symm
  · exact (spw_9 hz hl).trans wdq_9.symm
  · exact (spw_10 hz hl).trans wdq_10.symm
  · exact (spw_11 hz hl).trans wdq_11.symm
  · exact (spw_12 hz hl).trans wdq_12.symm
  · exact (spw_13 hz hl).trans wdq_13.symm
  · exact (spw_14 hz hl).trans wdq_14.symm
  · exact (spw_15 hz hl).trans wdq_15.symm
  · exact (spw_16 hz hl).trans wdq_16.symm
  · exact (spw_17 hz hl).trans wdq_17.symm
  · exact (spw_18 hz hl).trans wdq_18.symm
  · exact (spw_19 hz hl).trans wdq_19.symm
  · exact (spw_20 hz hl).trans wdq_20.symm
