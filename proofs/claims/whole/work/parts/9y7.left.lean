/-! what the constructors of boards and of the law leave -/
theorem or_eqF {a b : Prop} (h : ¬ a) : (a ∨ b) = b := propext ⟨fun z => z.resolve_left h, Or.inr⟩
theorem bdP_iff {P : Int → Bool} {ar ow ha jo k : Int} : bdP P ar ow ha jo k = true ↔ P k = true ∨ (ar ≤ k ∧ k < ar + 8) ∨ (ow ≤ k ∧ k < ow + 20) ∨ (ha ≤ k ∧ k < ha + 60) ∨ (jo ≤ k ∧ k < jo + 120) := by
  unfold bdP
  simp only [ad_iff, adR_iff]
  by_cases e : P k = true
  · simp only [e, true_or]
  · have e9 : (P k = true) = False := eq_false e
    simp only [e9, false_or]
    omega
theorem bdH_ne {h : jx_H} {bo ar ow ha jo k : Int} (h1 : k ≠ bo) (h2 : ¬ (ar ≤ k ∧ k < ar + 8)) : bdH h bo ar ow ha jo k = h k := by
  unfold bdH bdH0
  simp (disch := omega) only [hu_rwB, mulH_ne, flH_ne]
theorem lwP_iff {P : Int → Bool} {k : Int} : lwP P k = true ↔ P k = true ∨ (k = 40 ∨ k = 910 ∨ k = 930 ∨ k = 950 ∨ k = 970 ∨ (41 ≤ k ∧ k < 46) ∨ (900 ≤ k ∧ k < 910) ∨ (920 ≤ k ∧ k < 930) ∨ (940 ≤ k ∧ k < 950) ∨ (960 ≤ k ∧ k < 970)) := by
  unfold lwP
  simp only [txP_iff, ad_iff]
  by_cases e : P k = true
  · simp only [e, true_or]
  · have e9 : (P k = true) = False := eq_false e
    simp only [e9, false_or]
    omega
theorem lwH_ne {h : jx_H} {k : Int} (h1 : k ≠ 4) (h2 : k ≠ 40) (h3 : k ≠ 910) (h4 : ¬ (900 ≤ k ∧ k < 910)) : lwH h k = h k := by
  unfold lwH
  simp (disch := omega) only [hu_rwB, txH_ne]
theorem RefIn_bd {P : Int → Bool} {h : jx_H} {bo ar ow ha jo : Int} (kb : KB bo ar ow ha jo) (p : P bo = true) (r : RefIn sgC P h) (n : ∀ k, (ar ≤ k ∧ k < ar + 8) ∨ (ow ≤ k ∧ k < ow + 20) ∨ (ha ≤ k ∧ k < ha + 60) ∨ (jo ≤ k ∧ k < jo + 120) → NewRow sgC h k) : RefIn sgC (bdP P ar ow ha jo) (bdH h bo ar ow ha jo) := by
  obtain ⟨k0, ⟨ka0, ka1, ka2, ka3⟩, ⟨k4, k5, k6, k7⟩, kow, kha, kjo, ko⟩ := kb
  have r0 := r
  have r1 := RefIn_ad (a := ar) r0 (fun j => by (try simp (disch := omega) only [hu_rwB, mulH_ne, flH_ne]); exact n _ (by omega) j)
  have r2 := RefIn_put (a := bo) (k := ((8 : Nat) : Int)) (v := ar) r1 (by simp only [ad_iff, adR_iff, p, true_or, or_true])
  have r3 := RefIn_ad (a := ar + 1) r2 (fun j => by (try simp (disch := omega) only [hu_rwB, mulH_ne, flH_ne]); exact n _ (by omega) j)
  have r4 := RefIn_put (a := bo) (k := ((9 : Nat) : Int)) (v := ar + 1) r3 (by simp only [ad_iff, adR_iff, p, true_or, or_true])
  have r5 := RefIn_ad (a := ar + 2) r4 (fun j => by (try simp (disch := omega) only [hu_rwB, mulH_ne, flH_ne]); exact n _ (by omega) j)
  have r6 := RefIn_put (a := bo) (k := ((10 : Nat) : Int)) (v := ar + 2) r5 (by simp only [ad_iff, adR_iff, p, true_or, or_true])
  have r7 := RefIn_ad (a := ar + 3) r6 (fun j => by (try simp (disch := omega) only [hu_rwB, mulH_ne, flH_ne]); exact n _ (by omega) j)
  have r8 := RefIn_put (a := bo) (k := ((11 : Nat) : Int)) (v := ar + 3) r7 (by simp only [ad_iff, adR_iff, p, true_or, or_true])
  have r9 := RefIn_ad (a := ar + 4) r8 (fun j => by (try simp (disch := omega) only [hu_rwB, mulH_ne, flH_ne]); exact n _ (by omega) j)
  have r10 := RefIn_put (a := bo) (k := ((12 : Nat) : Int)) (v := ar + 4) r9 (by simp only [ad_iff, adR_iff, p, true_or, or_true])
  have r11 := RefIn_mulR (a := ar + 5) (b := ow) (n := ((20 : Nat) : Int)) (RefIn_ad (a := ar + 5) r10 (fun j => by (try simp (disch := omega) only [hu_rwB, mulH_ne, flH_ne]); exact n _ (by omega) j)) (fun j j0 j1 => (fun j => by (try simp (disch := omega) only [hu_rwB, mulH_ne, flH_ne]); exact n _ (by omega) j)) (by omega)
  have r12 := RefIn_put (a := bo) (k := ((13 : Nat) : Int)) (v := ar + 5) r11 (by simp only [ad_iff, adR_iff, p, true_or, or_true])
  have r13 := RefIn_ad (a := ar + 6) r12 (fun j => by (try simp (disch := omega) only [hu_rwB, mulH_ne, flH_ne]); exact n _ (by omega) j)
  have r14 := RefIn_put (a := bo) (k := ((14 : Nat) : Int)) (v := ar + 6) r13 (by simp only [ad_iff, adR_iff, p, true_or, or_true])
  have r15 := RefIn_ad (a := ar + 7) r14 (fun j => by (try simp (disch := omega) only [hu_rwB, mulH_ne, flH_ne]); exact n _ (by omega) j)
  have r16 := RefIn_put (a := bo) (k := ((15 : Nat) : Int)) (v := ar + 7) r15 (by simp only [ad_iff, adR_iff, p, true_or, or_true])
  have s1 := RefIn_fl (a := ar + 2) (n := 8) (v := 1) (RefIn_fl (a := ar + 1) (n := 8) (v := 1) r16 (fun j => by unfold rfC; rw [ka1]; exact fun z => z)) (fun j => by unfold rfC; rw [ka2]; exact fun z => z)
  have s2 := RefIn_mulR (a := ar + 6) (b := ha) (n := 60) s1 (fun j j0 j1 => fun i => by (try simp (disch := omega) only [hu_rwB, mulH_ne, flH_ne]); exact n _ (by omega) i) (by omega)
  have s3 := RefIn_mulR (a := ar + 7) (b := jo) (n := 120) s2 (fun j j0 j1 => fun i => by (try simp (disch := omega) only [hu_rwB, mulH_ne, flH_ne]); exact n _ (by omega) i) (by omega)
  exact s3
theorem RefIn_lw {P : Int → Bool} {h : jx_H} (p : P 4 = true) (r : RefIn sgC P h) (n : ∀ k, (k = 40 ∨ k = 910 ∨ k = 930 ∨ k = 950 ∨ k = 970 ∨ (41 ≤ k ∧ k < 46) ∨ (900 ≤ k ∧ k < 910) ∨ (920 ≤ k ∧ k < 930) ∨ (940 ≤ k ∧ k < 950) ∨ (960 ≤ k ∧ k < 970)) → NewRow sgC h k) : RefIn sgC (lwP P) (lwH h) := by
  have r0 := r
  have r1 := RefIn_ad (a := 40) r0 (fun j => by (try simp (disch := omega) only [hu_rwB]); exact n _ (by omega) j)
  have r2 := RefIn_put (a := 4) (k := ((0 : Nat) : Int)) (v := 40) r1 (by simp only [ad_iff, true_or, or_true])
  have r3 := RefIn_ad (a := 910) r2 (fun j => by (try simp (disch := omega) only [hu_rwB]); exact n _ (by omega) j)
  have r4 := RefIn_ad (a := 910 + 20) r3 (fun j => by (try simp (disch := omega) only [hu_rwB]); exact n _ (by omega) j)
  have r5 := RefIn_ad (a := 910 + 40) r4 (fun j => by (try simp (disch := omega) only [hu_rwB]); exact n _ (by omega) j)
  have r6 := RefIn_ad (a := 910 + 60) r5 (fun j => by (try simp (disch := omega) only [hu_rwB]); exact n _ (by omega) j)
  have r7 := RefIn_put (a := 910) (k := 0) (v := 910 + 20) r6 (by simp only [ad_iff, or_true, true_or])
  have r8 := RefIn_put (a := 910) (k := 1) (v := 910 + 40) r7 (by simp only [ad_iff, or_true, true_or])
  have r9 := RefIn_put (a := 910) (k := 2) (v := 910 + 60) r8 (by simp only [ad_iff, or_true, true_or])
  have r10 := RefIn_put (a := 4) (k := ((1 : Nat) : Int)) (v := 910) r9 (by simp only [ad_iff, true_or, or_true])
  have r11 := RefIn_ad (a := 41) r10 (fun j => by (try simp (disch := omega) only [hu_rwB]); exact n _ (by omega) j)
  have r12 := RefIn_put (a := 4) (k := ((2 : Nat) : Int)) (v := 41) r11 (by simp only [ad_iff, true_or, or_true])
  have r13 := RefIn_ad (a := 42) r12 (fun j => by (try simp (disch := omega) only [hu_rwB]); exact n _ (by omega) j)
  have r14 := RefIn_put (a := 4) (k := ((3 : Nat) : Int)) (v := 42) r13 (by simp only [ad_iff, true_or, or_true])
  have r15 := RefIn_ad (a := 43) r14 (fun j => by (try simp (disch := omega) only [hu_rwB]); exact n _ (by omega) j)
  have r16 := RefIn_put (a := 4) (k := ((4 : Nat) : Int)) (v := 43) r15 (by simp only [ad_iff, true_or, or_true])
  have r17 := RefIn_ad (a := 44) r16 (fun j => by (try simp (disch := omega) only [hu_rwB]); exact n _ (by omega) j)
  have r18 := RefIn_put (a := 4) (k := ((5 : Nat) : Int)) (v := 44) r17 (by simp only [ad_iff, true_or, or_true])
  have r19 := RefIn_ad (a := 45) r18 (fun j => by (try simp (disch := omega) only [hu_rwB]); exact n _ (by omega) j)
  have r20 := RefIn_put (a := 4) (k := ((6 : Nat) : Int)) (v := 45) r19 (by simp only [ad_iff, true_or, or_true])
  have s3 := RefIn_tx (n := 10) r20 (fun k hk j => by (try simp (disch := omega) only [hu_rwB]); exact n k (by omega) j) (by omega)
  exact s3
theorem kd_fam9 (q : jx_Sg) (pre post : List jx_Sg) (e : sgC = pre ++ q :: post) (hp : pre.all (fun x => decide (x.1 + (x.2.1 : Int) ≤ q.1 ∨ q.1 + (q.2.1 : Int) ≤ x.1)) = true) (a : Int) (h1 : q.1 ≤ a) (h2 : a < q.1 + (q.2.1 : Int)) : jx_kd sgC a = q.2.2 := by
  rw [e]
  exact kd_fam h1 h2 pre hp
theorem kb2 : KB 2 20 100 300 500 := ⟨rfl, ⟨rfl, rfl, rfl, rfl⟩, ⟨rfl, rfl, rfl, rfl⟩, fun j a b => kd_fam9 (100, 20, (1, 0, 21)) (sgC.take 49) (sgC.drop 50) rfl (by decide) _ (by show (100 : Int) ≤ _; omega) (by show _ < (100 : Int) + 20; omega), fun j a b => kd_fam9 (300, 60, (0, 2, 5)) (sgC.take 52) (sgC.drop 53) rfl (by decide) _ (by show (300 : Int) ≤ _; omega) (by show _ < (300 : Int) + 60; omega), fun j a b => kd_fam9 (500, 120, (0, 3, 9)) (sgC.take 54) (sgC.drop 55) rfl (by decide) _ (by show (500 : Int) ≤ _; omega) (by show _ < (500 : Int) + 120; omega), by decide⟩
theorem kb3 : KB 3 30 150 400 700 := ⟨rfl, ⟨rfl, rfl, rfl, rfl⟩, ⟨rfl, rfl, rfl, rfl⟩, fun j a b => kd_fam9 (150, 20, (1, 0, 21)) (sgC.take 50) (sgC.drop 51) rfl (by decide) _ (by show (150 : Int) ≤ _; omega) (by show _ < (150 : Int) + 20; omega), fun j a b => kd_fam9 (400, 60, (0, 2, 5)) (sgC.take 53) (sgC.drop 54) rfl (by decide) _ (by show (400 : Int) ≤ _; omega) (by show _ < (400 : Int) + 60; omega), fun j a b => kd_fam9 (700, 120, (0, 3, 9)) (sgC.take 55) (sgC.drop 56) rfl (by decide) _ (by show (700 : Int) ≤ _; omega) (by show _ < (700 : Int) + 120; omega), by decide⟩
theorem kdcou (j : Int) (a : 0 ≤ j) (b : j < 24) : jx_kd sgC (200 + j) = (0, 1, 9) := kd_fam9 (200, 24, (0, 1, 9)) (sgC.take 51) (sgC.drop 52) rfl (by decide) _ (by show (200 : Int) ≤ _; omega) (by show _ < (200 : Int) + 24; omega)
