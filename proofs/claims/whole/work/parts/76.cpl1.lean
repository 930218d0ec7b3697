/-! the choice of PLACES, by bundles: what stands behind it -/
theorem Sim.z8 {m h : jx_H} (S : Sim m h) {c : Int} (h0 : 0 ≤ c ∧ c ≤ 2000) : h 74 (16008 + c) = 0 := S.wo.2 c h0.1 h0.2
theorem pM_le (f : Int → Int) {cs c : Int} : ∀ (n : Nat) (k : Int), 0 ≤ k → k ≤ n → k * cs ≤ c → f k ≤ pM f cs c n
  | 0, k, h0, h1, _ => by
    have : k = 0 := by omega
    subst this
    exact Int.le_refl _
  | n + 1, k, h0, h1, h2 => by
    unfold pM
    by_cases e : k = ((n + 1 : Nat) : Int)
    · rw [← e]
      split
      · exact Int.le_refl _
      · rename_i q
        by_cases e2 : pM f cs c n < f k
        · exact absurd ⟨h2, e2⟩ q
        · omega
    · have ih := pM_le f (cs := cs) (c := c) n k h0 (by omega) h2
      split
      · rename_i q; omega
      · exact ih
def mx (x y : Int) : Int := if x < y then y else x
theorem pM_join {f g : Int → Int} {cs c m e : Int} {L : Nat} (hcs : 0 ≤ cs) (hc : 0 ≤ c) (hm : 0 ≤ m ∧ m ≤ (L : Int) + 1) (hfg : ∀ k, f (k + m) = g k + e) : pM f cs c (L + m.toNat) = if m * cs ≤ c then mx (pM f cs c L) (pM g cs (c - m * cs) L + e) else pM f cs c L := by
  have hP := pM_ex f (cs := cs) hc (L + m.toNat)
  have hA := pM_ex f (cs := cs) hc L
  have hAP : pM f cs c L ≤ pM f cs c (L + m.toNat) := by
    obtain ⟨k, k0, k1, k2, k3⟩ := hA
    rw [← k3]
    exact pM_le f _ k k0 (by omega) k2
  obtain ⟨k, k0, k1, k2, k3⟩ := hP
  by_cases hk : k ≤ L
  · have h1 : pM f cs c (L + m.toNat) ≤ pM f cs c L := by rw [← k3]; exact pM_le f L k k0 hk k2
    split
    · rename_i hmc
      have hB : pM g cs (c - m * cs) L + e ≤ pM f cs c (L + m.toNat) := by
        obtain ⟨j, j0, j1, j2, j3⟩ := pM_ex g (cs := cs) (c := c - m * cs) (by omega) L
        rw [← j3, ← hfg]
        exact pM_le f _ (j + m) (by omega) (by omega) (by rw [Int.add_mul]; omega)
      unfold mx
      split <;> omega
    · omega
  · have h2 : m * cs ≤ k * cs := mul_le_of (by omega) hcs
    rw [if_pos (by omega)]
    have hB1 : pM f cs c (L + m.toNat) ≤ pM g cs (c - m * cs) L + e := by
      have h3 := hfg (k - m)
      rw [show k - m + m = k by omega] at h3
      rw [← k3, h3]
      have h4 := pM_le g (cs := cs) (c := c - m * cs) L (k - m) (by omega) (by omega) (by rw [Int.sub_mul]; omega)
      omega
    have hB : pM g cs (c - m * cs) L + e ≤ pM f cs c (L + m.toNat) := by
      obtain ⟨j, j0, j1, j2, j3⟩ := pM_ex g (cs := cs) (c := c - m * cs) (by omega) L
      rw [← j3, ← hfg]
      exact pM_le f _ (j + m) (by omega) (by omega) (by rw [Int.add_mul]; omega)
    unfold mx
    split <;> omega
/-- what the table holds for a TRADE when L places of it may be taken -/
def pR (a : Int → Int) (t c : Int) (L : Nat) : Int := pM (pf a t c) (a (50 + 3 * t + 1)) c L
theorem pR_join {a : Int → Int} {t c m : Int} {L : Nat} (hcs : 0 ≤ a (50 + 3 * t + 1)) (hc : 0 ≤ c) (hm : 0 ≤ m ∧ m ≤ (L : Int) + 1) : pR a t c (L + m.toNat) = if m * a (50 + 3 * t + 1) ≤ c then mx (pR a t c L) (pR a t (c - m * a (50 + 3 * t + 1)) L + m * (4096 * a (50 + 3 * t + 2) - a (50 + 3 * t + 1))) else pR a t c L := by
  unfold pR
  refine pM_join hcs hc hm fun k => ?_
  rw [pf_at, pf_at, Int.add_mul, Int.add_mul, show c - m * a (50 + 3 * t + 1) - k * a (50 + 3 * t + 1) = c - (k * a (50 + 3 * t + 1) + m * a (50 + 3 * t + 1)) by omega]
  omega
theorem pB_b {a : Int → Int} (R : RA a) : ∀ (n : Nat) (c : Int), n ≤ 8 → 0 ≤ c → 0 ≤ pB a n c ∧ pB a n c ≤ 20480000 * n
  | 0, c, _, _ => by show (0 : Int) ≤ 0 ∧ (0 : Int) ≤ _; omega
  | n + 1, c, hn, hc => by
    have ht := R.tr (7 - (n : Int)) (by omega) (by omega)
    have e := pB_t a (t := 7 - (n : Int)) (by omega) c
    rw [show (8 - (7 - (n : Int))).toNat = n + 1 by omega] at e
    rw [e]
    have e7 : (7 - (7 - (n : Int))).toNat = n := by omega
    have h0 := pM_le (pf a (7 - (n : Int)) c) (cs := a (50 + 3 * (7 - (n : Int)) + 1)) (c := c) (a (50 + 3 * (7 - (n : Int)))).toNat 0 (by omega) (by omega) (by omega)
    obtain ⟨k, k0, k1, k2, k3⟩ := pM_ex (pf a (7 - (n : Int)) c) (cs := a (50 + 3 * (7 - (n : Int)) + 1)) hc (a (50 + 3 * (7 - (n : Int)))).toNat
    rw [pf_at, e7, Int.zero_mul, Int.zero_mul, Int.sub_zero, Int.add_zero] at h0
    have b0 := pB_b R n c (by omega) hc
    have b1 := pB_b R n (c - k * a (50 + 3 * (7 - (n : Int)) + 1)) (by omega) (by omega)
    rw [← k3] at h0 ⊢
    rw [pf_at, e7] at h0 ⊢
    have m1 := mul_4096 k (a (50 + 3 * (7 - (n : Int)) + 2)) (a (50 + 3 * (7 - (n : Int)) + 1))
    have m2 := mul_b (show 0 ≤ k ∧ k ≤ 50 by omega) ht.2.2
    have m3 := mul_b (show 0 ≤ k ∧ k ≤ 50 by omega) (show 0 ≤ a (50 + 3 * (7 - (n : Int)) + 1) ∧ a (50 + 3 * (7 - (n : Int)) + 1) ≤ 200 by omega)
    omega
theorem pR_b {a : Int → Int} (R : RA a) {t c : Int} (ht : 0 ≤ t ∧ t < 8) (hc : 0 ≤ c) {L : Nat} (hL : L ≤ 50) : 0 ≤ pR a t c L ∧ pR a t c L ≤ 163840000 := by
  have tr := R.tr t ht.1 ht.2
  unfold pR
  have h0 := pM_le (pf a t c) (cs := a (50 + 3 * t + 1)) (c := c) L 0 (by omega) (by omega) (by omega)
  obtain ⟨k, k0, k1, k2, k3⟩ := pM_ex (pf a t c) (cs := a (50 + 3 * t + 1)) hc L
  rw [pf_at, Int.zero_mul, Int.zero_mul, Int.sub_zero, Int.add_zero] at h0
  have b0 := pB_b R (7 - t).toNat c (by omega) hc
  have b1 := pB_b R (7 - t).toNat (c - k * a (50 + 3 * t + 1)) (by omega) (by omega)
  rw [← k3] at h0 ⊢
  rw [pf_at] at h0 ⊢
  have m1 := mul_4096 k (a (50 + 3 * t + 2)) (a (50 + 3 * t + 1))
  have m2 := mul_b (show 0 ≤ k ∧ k ≤ 50 by omega) tr.2.2
  have m3 := mul_b (show 0 ≤ k ∧ k ≤ 50 by omega) (show 0 ≤ a (50 + 3 * t + 1) ∧ a (50 + 3 * t + 1) ≤ 200 by omega)
  omega
/-- all that is chosen: worth and cost together, of the first n TRADES -/
theorem pN_eq {a : Int → Int} (R : RA a) {t c : Int} (ht : 0 ≤ t ∧ t < 8) (hc : 0 ≤ c) : pB a (8 - t).toNat c = pB a (7 - t).toNat (c - pN a t c * a (50 + 3 * t + 1)) + pN a t c * (4096 * a (50 + 3 * t + 2) - a (50 + 3 * t + 1)) := by
  have h := (pN_is R ht hc).1
  rw [pf_at] at h
  exact h.symm
theorem pL_s (a : Int → Int) (c : Int) (n : Nat) : pL a c (n + 1) = pL a c n - pN a (n : Int) (pL a c n) * a (50 + 3 * (n : Int) + 1) := rfl
def pTo (a : Int → Int) (c k : Int) : Nat → Int := fun n => sSum (fun t => pN a t (pL a c t.toNat) * a (50 + 3 * t + k)) n
theorem pTo_is {a : Int → Int} (R : RA a) {c : Int} (hc : 0 ≤ c) : ∀ n : Nat, n ≤ 8 → pB a 8 c = pB a (8 - n) (pL a c n) + 4096 * pTo a c 2 n - pTo a c 1 n ∧ pL a c n + pTo a c 1 n = c
  | 0, _ => by
    show pB a 8 c = pB a 8 c + 4096 * 0 - 0 ∧ c + 0 = c
    omega
  | n + 1, hn => by
    obtain ⟨i1, i2⟩ := pTo_is R hc n (by omega)
    have hl := pL_b R hc n (by omega)
    have h := pN_eq R (t := (n : Int)) (c := pL a c n) (by omega) hl.1
    rw [show (8 - (n : Int)).toNat = 8 - n by omega, show (7 - (n : Int)).toNat = 8 - (n + 1) by omega, ← pL_s, mul_4096] at h
    have e1 : ∀ k : Int, pTo a c k (n + 1) = pTo a c k n + pN a (n : Int) (pL a c n) * a (50 + 3 * (n : Int) + k) := fun k => by
      unfold pTo
      show _ + pN a (n : Int) (pL a c ((n : Int)).toNat) * a (50 + 3 * (n : Int) + k) = _
      rw [Int.toNat_natCast]
    have e2 := pL_s a c n
    rw [e1, e1]
    omega
theorem pTo_b {a : Int → Int} (R : RA a) {c : Int} (hc : 0 ≤ c ∧ c ≤ 2000) : sWo (pB a 8 c) = pTo a c 2 8 ∧ sCo (pB a 8 c) = pTo a c 1 8 ∧ (0 ≤ pTo a c 1 8 ∧ pTo a c 1 8 ≤ 2000) := by
  obtain ⟨h1, h2⟩ := pTo_is R hc.1 8 (by decide)
  have hl := pL_b R hc.1 8 (by decide)
  have h3 : pB a (8 - 8) (pL a c 8) = 0 := rfl
  have := sWo_of (w := pTo a c 2 8) (v := pTo a c 1 8) (b := pB a 8 c) (by omega) (by omega)
  exact ⟨this.1, this.2, by omega⟩
