/-! what holds when both objects are new -/
theorem all_i {n : Nat} {f : Int → Bool} (h : (List.range n).all (fun j => f (j : Int)) = true) (x : Int) (x0 : 0 ≤ x) (x1 : x < (n : Int)) : f x = true := by
  have a : f ((x.toNat : Nat) : Int) = true := List.all_eq_true.mp h x.toNat (List.mem_range.mpr (by omega))
  rw [show ((x.toNat : Nat) : Int) = x by omega] at a
  exact a
/-- a board with nothing on it -/
def Bl (a : Int → Int) : Prop := (∀ x, 0 ≤ x → x < 40000 → ¬ (50 ≤ x ∧ x < 74) → a x = 0) ∧ ∀ t, 0 ≤ t → t < 8 → a (50 + 3 * t) = 0 ∧ a (50 + 3 * t + 1) = 1 ∧ a (50 + 3 * t + 2) = 1
theorem Bl_BI {a : Int → Int} (h : Bl a) : BI a := by
  obtain ⟨z, o⟩ := h
  have a0 := z 0 (by decide) (by decide) (by decide)
  have a1 := z 1 (by decide) (by decide) (by decide)
  have a2 := z 2 (by decide) (by decide) (by decide)
  have a3 := z 3 (by decide) (by decide) (by decide)
  have a4 := z 4 (by decide) (by decide) (by decide)
  have a5 := z 5 (by decide) (by decide) (by decide)
  have a6 := z 6 (by decide) (by decide) (by decide)
  refine ⟨⟨by omega, by omega, by omega, by omega, by omega, by omega, by omega, ?_, ?_, ?_, ?_, ?_, ?_, ?_, ?_, ?_⟩, ?_, ?_, ?_, ?_⟩
  · intro t t0 t1
    have := o t t0 t1
    omega
  · intro q q0 q1
    rw [z (80 + q) (by omega) (by omega) (by omega)]
    decide
  · intro i i0 i1
    exact absurd i1 (by omega)
  · intro i i0 i1
    exact absurd i1 (by omega)
  · intro i i0 i1
    exact absurd i1 (by omega)
  · intro i i0 i1
    exact absurd i1 (by omega)
  · intro f f0 f1
    rw [z (2300 + f) (by omega) (by omega) (by omega)]
    decide
  · intro f y f0 f1 y0 y1
    rw [z (3000 + 50 * f + y) (by omega) (by omega) (by omega)]
    decide
  · intro f k f0 f1 k0 k1
    rw [z (4000 + 600 * f + k) (by omega) (by omega) (by omega), z (16000 + 600 * f + k) (by omega) (by omega) (by omega), z (28000 + 600 * f + k) (by omega) (by omega) (by omega)]
    decide
  · intro f y f0 f1 y0 y1
    rw [z (3000 + 50 * f + y) (by omega) (by omega) (by omega), a0]
    exact ⟨fun _ _ => rfl, fun _ _ => rfl, fun q _ => by omega, fun _ q => by omega⟩
  · intro i i0 i1
    exact absurd i1 (by omega)
  · intro f k f0 f1 k0 k1
    exact z (16000 + 600 * f + k) (by omega) (by omega) (by omega)
  · intro j j0 j1
    rw [z (1000 + 10 * j + 4) (by omega) (by omega) (by omega), z (1000 + 10 * j + 6) (by omega) (by omega) (by omega), z (1000 + 10 * j + 8) (by omega) (by omega) (by omega)]
    decide
/-- the reference, new -/
def gM : jx_H := hu (s_cp (onH rfM 8) 10 11 40000) 1 3 (onH rfM 8 1 2)
theorem rfM_row {k : Int} (hk : k ≠ 1) : rfM k = nhM k := by
  unfold rfM rfH
  simp (disch := exact hk) only [hu_row]
theorem rfM_10 (x : Int) : rfM 10 x = 0 := by
  rw [rfM_row (by decide)]
  have k : jx_kd sgM 10 = (1, 0, 40000) := by decide +kernel
  unfold nhM
  simp only [k]
theorem rfM_14 (x : Int) : rfM 14 x = 0 := by
  rw [rfM_row (by decide)]
  have k : jx_kd sgM 14 = (1, 0, 40) := by decide +kernel
  unfold nhM
  simp only [k]
theorem rfM_16 (x : Int) : rfM 16 x = 0 := by
  rw [rfM_row (by decide)]
  have k : jx_kd sgM 16 = (1, 1, 300) := by decide +kernel
  unfold nhM
  simp only [k]
theorem onH_row {h : jx_H} {n k : Int} (hk : k ≠ 10) : onH h n k = h k := funext fun j => if_neg fun z => hk z.1
theorem gM_10 : gM 10 = onH rfM 8 10 := by
  unfold gM
  rw [hu_row (by decide), s_cp_row (by decide)]
theorem gM_11 {x : Int} (x0 : 0 ≤ x) (x1 : x < 40000) : gM 11 x = onH rfM 8 10 x := by
  unfold gM
  rw [hu_row (by decide)]
  exact if_pos ⟨rfl, x0, x1⟩
theorem gM_k {k : Int} (h1 : k ≠ 1) (h10 : k ≠ 10) (h11 : k ≠ 11) : gM k = rfM k := by
  unfold gM
  rw [hu_row h1, s_cp_row h11, onH_row h10]
theorem gM_1 {x : Int} (h3 : x ≠ 3) : gM 1 x = rfM 1 x := by
  unfold gM
  rw [hu_ni h3, s_cp_row (by decide), onH_row (by decide)]
theorem gM_13 : gM 1 3 = rfM 1 2 := by
  unfold gM
  rw [hu_eq, onH_row (by decide)]
theorem on_Bl : Bl (onH rfM 8 10) := by
  refine ⟨fun x x0 x1 hx => ?_, fun t t0 t1 => ⟨?_, ?_, ?_⟩⟩
  · show (if (10 : Int) = 10 ∧ 50 ≤ x ∧ x < 50 + 3 * 8 ∧ (x - 50) % 3 ≠ 0 then 1 else rfM 10 x) = 0
    rw [if_neg (by omega), rfM_10]
  · show (if (10 : Int) = 10 ∧ 50 ≤ 50 + 3 * t ∧ 50 + 3 * t < 50 + 3 * 8 ∧ (50 + 3 * t - 50) % 3 ≠ 0 then 1 else rfM 10 (50 + 3 * t)) = 0
    rw [if_neg (by omega), rfM_10]
  · show (if (10 : Int) = 10 ∧ 50 ≤ 50 + 3 * t + 1 ∧ 50 + 3 * t + 1 < 50 + 3 * 8 ∧ (50 + 3 * t + 1 - 50) % 3 ≠ 0 then 1 else rfM 10 (50 + 3 * t + 1)) = 1
    exact if_pos (by omega)
  · show (if (10 : Int) = 10 ∧ 50 ≤ 50 + 3 * t + 2 ∧ 50 + 3 * t + 2 < 50 + 3 * 8 ∧ (50 + 3 * t + 2 - 50) % 3 ≠ 0 then 1 else rfM 10 (50 + 3 * t + 2)) = 1
    exact if_pos (by omega)
theorem gM_b0 : Bl (gM 10) := by rw [gM_10]; exact on_Bl
theorem gM_b1 : Bl (gM 11) := ⟨fun x x0 x1 hx => by rw [gM_11 x0 x1]; exact on_Bl.1 x x0 x1 hx, fun t t0 t1 => by
  rw [gM_11 (by omega) (by omega), gM_11 (by omega) (by omega), gM_11 (by omega) (by omega)]
  exact on_Bl.2 t t0 t1⟩
theorem gM_12 : gM 1 2 = 0 := by rw [gM_1 (by decide)]; decide +kernel
theorem gM_13' : gM 1 3 = 0 := by rw [gM_13]; decide +kernel
theorem gM_15 : gM 1 5 = -1 := by rw [gM_1 (by decide)]; decide +kernel
theorem gM_17 : gM 1 7 = 0 := by rw [gM_1 (by decide)]; decide +kernel
theorem gM_18 : gM 1 8 = -1 := by rw [gM_1 (by decide)]; decide +kernel
theorem gM_19 : gM 1 9 = -1 := by rw [gM_1 (by decide)]; decide +kernel
theorem gM_14 (x : Int) : gM 14 x = 0 := by rw [gM_k (by decide) (by decide) (by decide)]; exact rfM_14 x
theorem gM_16 (x : Int) : gM 16 x = 0 := by rw [gM_k (by decide) (by decide) (by decide)]; exact rfM_16 x
theorem gM_RX : RX gM 0 := by
  have z := gM_b0.1
  have y := gM_b1.1
  refine rx_mk (Bl_BI gM_b0) (Bl_BI gM_b1) (fun t s t0 t1 => ?_) (fun t s t0 t1 => ?_) ⟨?_, ?_, fun k k0 k1 => ?_⟩ (fun x x0 x1 => ?_) ?_ ?_ ?_
  · rw [z 4 (by decide) (by decide) (by decide)] at t1
    omega
  · rw [z 4 (by decide) (by decide) (by decide)] at t1
    omega
  · rw [gM_17]; decide
  · rw [gM_15]; decide
  · rw [gM_14]; decide
  · rw [gM_16]; decide
  · rw [z 0 (by decide) (by decide) (by decide), z 3 (by decide) (by decide) (by decide), z 4 (by decide) (by decide) (by decide), z 5 (by decide) (by decide) (by decide), y 0 (by decide) (by decide) (by decide), y 3 (by decide) (by decide) (by decide), y 4 (by decide) (by decide) (by decide), y 5 (by decide) (by decide) (by decide)]
    decide
  · unfold FUb
    rw [gM_12]
    decide
  · rw [gM_13']; decide
/-- the class's boards, new -/
def bdOk (bo ar ow ha jo : Int) : Bool :=
  (List.range 8).all (fun k => decide (mnC bo (k : Int) = 0)) && ((List.range 8).all (fun t => decide (mnC ar (t : Int) = 0) && (decide (mnC (ar + 1) (t : Int) = 1) && (decide (mnC (ar + 2) (t : Int) = 1) && decide (mnC (ar + 3) (t : Int) = 0)))) && ((List.range 20).all (fun f => decide (mnC (ar + 4) (f : Int) = 0)) && ((List.range 20).all (fun t => (List.range 21).all fun b => decide (mnC (ow + (t : Int)) (b : Int) = 0)) && ((List.range 60).all (fun i => (List.range 5).all fun k => decide (mnC (ha + (i : Int)) (k : Int) = 0)) && (List.range 120).all (fun j => (List.range 9).all fun k => decide (mnC (jo + (j : Int)) (k : Int) = 0))))))
theorem bdOk_2 : bdOk 2 20 100 300 500 = true := by decide +kernel
theorem bdOk_3 : bdOk 3 30 150 400 700 = true := by decide +kernel
theorem bl_SB {h : jx_H} {a : Int → Int} {fu bo ar ow ha jo : Int} (ok : bdOk bo ar ow ha jo = true) (b : Bl a) (f : fu = 0) (hb : h bo = mnC bo) (har : ∀ k, ar ≤ k → k ≤ ar + 4 → h k = mnC k) (how : ∀ k, ow ≤ k → k < ow + 20 → h k = mnC k) (hha : ∀ k, ha ≤ k → k < ha + 60 → h k = mnC k) (hjo : ∀ k, jo ≤ k → k < jo + 120 → h k = mnC k) : SB h a fu bo ar ow ha jo := by
  obtain ⟨z, o⟩ := b
  unfold bdOk at ok
  simp only [Bool.and_eq_true] at ok
  obtain ⟨k1, k2, k3, k4, k5, k6⟩ := ok
  refine ⟨?_, ?_, ?_, ?_, ?_, ?_⟩
  · have q : ∀ x : Int, 0 ≤ x → x < 8 → h bo x = 0 := fun x x0 x1 => by
      rw [hb]
      exact of_decide_eq_true (all_i (f := fun x => decide (mnC bo x = 0)) k1 x x0 (by omega))
    refine ⟨?_, ?_, ?_, ?_, ?_, ?_, ?_, ?_⟩
    · rw [q 0 (by decide) (by decide), z 0 (by decide) (by decide) (by decide)]
    · rw [q 1 (by decide) (by decide), z 1 (by decide) (by decide) (by decide)]
    · rw [q 2 (by decide) (by decide), z 2 (by decide) (by decide) (by decide)]
    · rw [q 3 (by decide) (by decide), z 3 (by decide) (by decide) (by decide)]
    · rw [q 4 (by decide) (by decide), z 4 (by decide) (by decide) (by decide)]
    · rw [q 5 (by decide) (by decide), z 5 (by decide) (by decide) (by decide)]
    · rw [q 6 (by decide) (by decide), z 6 (by decide) (by decide) (by decide)]
    · rw [q 7 (by decide) (by decide), f]
  · intro t t0 t1
    have q := all_i (f := fun t => decide (mnC ar t = 0) && (decide (mnC (ar + 1) t = 1) && (decide (mnC (ar + 2) t = 1) && decide (mnC (ar + 3) t = 0)))) k2 t t0 (by omega)
    simp only [Bool.and_eq_true, decide_eq_true_eq] at q
    have y := o t t0 t1
    rw [har ar (by omega) (by omega), har (ar + 1) (by omega) (by omega), har (ar + 2) (by omega) (by omega), har (ar + 3) (by omega) (by omega), z (80 + t) (by omega) (by omega) (by omega)]
    omega
  · intro f f0 f1
    have q := of_decide_eq_true (all_i (f := fun x => decide (mnC (ar + 4) x = 0)) k3 f f0 (by omega))
    rw [har (ar + 4) (by omega) (by omega), z (2300 + f) (by omega) (by omega) (by omega)]
    exact q
  · intro t b t0 t1 b0 b1
    have q := of_decide_eq_true (all_i (f := fun b => decide (mnC (ow + t) b = 0)) (all_i (f := fun t => (List.range 21).all fun b => decide (mnC (ow + t) (b : Int) = 0)) k4 t t0 (by omega)) (b + 1) (by omega) (by omega))
    have i9 : 0 ≤ (if b < 0 then (20 : Int) else b) ∧ (if b < 0 then (20 : Int) else b) ≤ 20 := by
      split <;> omega
    generalize (if b < 0 then (20 : Int) else b) = w at i9 ⊢
    rw [how (ow + t) (by omega) (by omega), z (2400 + 21 * t + w) (by omega) (by omega) (by omega)]
    exact q
  · intro i i0 i1
    have q : ∀ k : Int, 0 ≤ k → k < 5 → mnC (ha + i) k = 0 := fun k q0 q1 => of_decide_eq_true (all_i (f := fun k => decide (mnC (ha + i) k = 0)) (all_i (f := fun i => (List.range 5).all fun k => decide (mnC (ha + i) (k : Int) = 0)) k5 i i0 (by omega)) k q0 (by omega))
    rw [hha (ha + i) (by omega) (by omega), z (100 + 6 * i) (by omega) (by omega) (by omega), z (100 + 6 * i + 1) (by omega) (by omega) (by omega), z (100 + 6 * i + 2) (by omega) (by omega) (by omega), z (100 + 6 * i + 3) (by omega) (by omega) (by omega), z (100 + 6 * i + 4) (by omega) (by omega) (by omega)]
    exact ⟨q 0 (by decide) (by decide), q 1 (by decide) (by decide), q 2 (by decide) (by decide), q 3 (by decide) (by decide), q 4 (by decide) (by decide)⟩
  · intro j j0 j1
    have q : ∀ k : Int, 0 ≤ k → k < 9 → mnC (jo + j) k = 0 := fun k q0 q1 => of_decide_eq_true (all_i (f := fun k => decide (mnC (jo + j) k = 0)) (all_i (f := fun j => (List.range 9).all fun k => decide (mnC (jo + j) (k : Int) = 0)) k6 j j0 (by omega)) k q0 (by omega))
    rw [hjo (jo + j) (by omega) (by omega), z (1000 + 10 * j) (by omega) (by omega) (by omega), z (1000 + 10 * j + 1) (by omega) (by omega) (by omega), z (1000 + 10 * j + 2) (by omega) (by omega) (by omega), z (1000 + 10 * j + 3) (by omega) (by omega) (by omega), z (1000 + 10 * j + 4) (by omega) (by omega) (by omega), z (1000 + 10 * j + 5) (by omega) (by omega) (by omega), z (1000 + 10 * j + 6) (by omega) (by omega) (by omega), z (1000 + 10 * j + 7) (by omega) (by omega) (by omega), z (1000 + 10 * j + 8) (by omega) (by omega) (by omega)]
    exact ⟨q 0 (by decide) (by decide), q 1 (by decide) (by decide), q 2 (by decide) (by decide), q 3 (by decide) (by decide), q 4 (by decide) (by decide), q 5 (by decide) (by decide), q 6 (by decide) (by decide), q 7 (by decide) (by decide), q 8 (by decide) (by decide)⟩
theorem mnC_se : (decide (mnC 7 0 = -1) && ((List.range 20).all fun f => decide (mnC 70 (f : Int) = 0) && decide (mnC 71 (f : Int) = 0))) = true := by decide +kernel
theorem new_Sim {h : jx_H} (X : StC h) : Sim gM h := by
  obtain ⟨sw, ⟨x1, x2, x3⟩, x4⟩ := X
  have z := gM_b0.1
  have y := gM_b1.1
  have b0 := gM_b0
  have b1 := gM_b1
  have r : ∀ k : Int, 0 ≤ k → k < 900 → k ≠ 6 → ¬ (60 ≤ k ∧ k ≤ 63) → h k = mnC k := fun k k0 k1 k2 k3 => x4 k (by omega)
  have se := mnC_se
  rw [Bool.and_eq_true] at se
  have z0 := z 0 (by decide) (by decide) (by decide)
  have y0 := y 0 (by decide) (by decide) (by decide)
  refine ⟨bl_SB bdOk_2 b0 gM_12 (r 2 (by decide) (by decide) (by decide) (by decide)) (fun k k0 k1 => r k (by omega) (by omega) (by omega) (by omega)) (fun k k0 k1 => r k (by omega) (by omega) (by omega) (by omega)) (fun k k0 k1 => r k (by omega) (by omega) (by omega) (by omega)) (fun k k0 k1 => r k (by omega) (by omega) (by omega) (by omega)), bl_SB bdOk_3 b1 gM_13' (r 3 (by decide) (by decide) (by decide) (by decide)) (fun k k0 k1 => r k (by omega) (by omega) (by omega) (by omega)) (fun k k0 k1 => r k (by omega) (by omega) (by omega) (by omega)) (fun k k0 k1 => r k (by omega) (by omega) (by omega) (by omega)) (fun k k0 k1 => r k (by omega) (by omega) (by omega) (by omega)), fun c c0 c1 => ?_, fun c c0 c1 => ?_, fun c c0 c1 => ?_, fun c c0 c1 => ?_, ⟨fun k k0 k1 => ?_, fun f q f0 f1 q0 q1 => ?_⟩, ⟨fun k k0 k1 => ?_, fun f q f0 f1 q0 q1 => ?_⟩, fun t s t0 t1 => ?_, sw, ?_⟩
  · rw [z 3 (by decide) (by decide) (by decide)] at c1; omega
  · rw [y 3 (by decide) (by decide) (by decide)] at c1; omega
  · rw [z 5 (by decide) (by decide) (by decide)] at c1; omega
  · rw [y 5 (by decide) (by decide) (by decide)] at c1; omega
  · rw [z0] at k1; omega
  · rw [z (3000 + 50 * f + q) (by omega) (by omega) (by omega), if_neg (by omega)]
  · rw [y0] at k1; omega
  · rw [y (3000 + 50 * f + q) (by omega) (by omega) (by omega), if_neg (by omega)]
  · rw [z 4 (by decide) (by decide) (by decide)] at t1; omega
  · refine ⟨by rw [x1, gM_17], by rw [x2, gM_18], by rw [x3, gM_19], fun k k0 k1 => by rw [gM_17] at k1; omega, ?_, fun f f0 f1 => ?_⟩
    · rw [r 7 (by decide) (by decide) (by decide) (by decide), gM_15]
      exact of_decide_eq_true se.1
    · have q := all_i (f := fun f => decide (mnC 70 f = 0) && decide (mnC 71 f = 0)) se.2 f f0 (by omega)
      simp only [Bool.and_eq_true, decide_eq_true_eq] at q
      rw [r 70 (by decide) (by decide) (by decide) (by decide), r 71 (by decide) (by decide) (by decide) (by decide), gM_14, gM_14]
      exact q
