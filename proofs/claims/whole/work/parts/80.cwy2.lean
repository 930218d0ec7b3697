/-! the class: seek, way -/
/-- all numbers are in their range, and each that is not NEVER is a way's -/
def WS (a o : Int → Int) (i : Int) : Prop := ∀ S, 0 ≤ S → S < 256 → (-1 ≤ o S ∧ o S ≤ 600) ∧ (o S < 600 → Rch a i (sBits S).toNat S (o S + 1))
/-- what follows from the sets below n is there -/
def WC (a o : Int → Int) (i p n : Int) : Prop := ∀ S c, 0 ≤ S → S < n → 0 ≤ c → c < a 3 → o S < 600 → ¬ bt S p = 1 → sOr S (a (500 + 9 * c + 7)) ≠ S → o S < a (500 + 9 * c + 5) → sOk a i c S → o (sOr S (a (500 + 9 * c + 7))) ≤ a (500 + 9 * c + 6)
/-- the best of the sets below n -/
def WP (o : Int → Int) (p n L C : Int) : Prop := (L = -1 ∧ C = -1 ∧ ∀ S, 0 ≤ S → S < n → bt S p = 1 → ¬ o S < 600) ∨ ((∃ S, 0 ≤ S ∧ S < n ∧ bt S p = 1 ∧ o S < 600 ∧ L = o S ∧ C = sBits S) ∧ ∀ S, 0 ≤ S → S < n → bt S p = 1 → o S < 600 → L < o S ∨ (L = o S ∧ C ≤ sBits S))
theorem WayIs_of {a o : Int → Int} {i p L C : Int} (R : RA a) (hp : 0 ≤ p ∧ p < 8) (h0 : o 0 = a 0 - 1) (s : WS a o i) (c : WC a o i p 256) (w : WP o p 256 L C) : WayIs a i p L C := by
  have c0 := R.c0
  have key : ∀ (k : Nat) (S r : Int), Rch a i k S r → (¬ bt S p = 1 → o S + 1 ≤ r ∧ sBits S ≤ k) ∧ (bt S p = 1 → ∃ T, 0 ≤ T ∧ T < 256 ∧ bt T p = 1 ∧ o T + 1 ≤ r ∧ sBits T ≤ k) := by
    intro k
    induction k with
    | zero =>
      intro S r hr
      obtain ⟨e1, e2⟩ := hr
      subst e1
      have z : bt 0 p = 0 := bt_0 (n := 0) (by decide) hp.1
      refine ⟨fun _ => ⟨by omega, ?_⟩, fun q => by omega⟩
      have : sBits 0 = 0 := by have := sBits_8 (X := 0) (by decide); rw [show ((0 : Nat) : Int) = 0 from rfl] at this; rw [this, pcN_0]; rfl
      omega
    | succ k ih =>
      intro S r hr
      obtain ⟨d, T, q, hd, hT, hq, hok, hS, hr2⟩ := hr
      have bT := Rch_b R hT
      have co := R.co d hd.1 hd.2
      have om := sOr_more (S := T) (g := a (500 + 9 * d + 7)) bT.1 (by omega)
      have i1 := ih T q hT
      by_cases hb : bt T p = 1
      · obtain ⟨U, u0, u1, u2, u3, u4⟩ := i1.2 hb
        refine ⟨fun hn => absurd ((om.2.2 p hp.1 hp.2).mpr (Or.inl hb)) (by rw [← hS]; exact hn), fun _ => ⟨U, u0, u1, u2, by omega, by omega⟩⟩
      · have i2 := i1.1 hb
        by_cases he : sOr T (a (500 + 9 * d + 7)) = T
        · rw [hS, he]
          exact ⟨fun _ => ⟨by omega, by omega⟩, fun q => absurd q hb⟩
        · have hc := c T d bT.1.1 bT.1.2 hd.1 hd.2 (by omega) hb he (by omega) hok
          have hbits := om.2.1 he
          rw [hS]
          refine ⟨fun _ => ⟨by omega, by omega⟩, fun hq => ⟨_, by omega, om.1.2, hq, by omega, by omega⟩⟩
  rcases w with ⟨e1, e2, w⟩ | ⟨⟨S, s0, s1, s2, s3, s4, s5⟩, w⟩
  · refine Or.inl ⟨e1, e2, fun k S r hr hb => ?_⟩
    obtain ⟨T, t0, t1, t2, t3, t4⟩ := (key k S r hr).2 hb
    have b := Rch_b R hr
    exact w T t0 t1 t2 (by omega)
  · have bS := sBits_b S
    refine Or.inr ⟨by omega, ⟨S, ?_, s2⟩, fun k T r hr hb => ?_⟩
    · rw [s4, s5]; exact (s S s0 s1).2 s3
    · obtain ⟨U, u0, u1, u2, u3, u4⟩ := (key k T r hr).2 hb
      have b := Rch_b R hr
      have z := w U u0 u1 u2 (by omega)
      omega
theorem WS_upd {a o : Int → Int} {i S c : Int} (R : RA a) (s : WS a o i) (hS : 0 ≤ S ∧ S < 256) (hc : 0 ≤ c ∧ c < a 3) (h1 : sOr S (a (500 + 9 * c + 7)) ≠ S) (h2 : o S < a (500 + 9 * c + 5)) (h3 : sOk a i c S) {o2 : Int → Int} (e : ∀ x, x ≠ sOr S (a (500 + 9 * c + 7)) → o2 x = o x) (e2 : o2 (sOr S (a (500 + 9 * c + 7))) = if a (500 + 9 * c + 6) < o (sOr S (a (500 + 9 * c + 7))) then a (500 + 9 * c + 6) else o (sOr S (a (500 + 9 * c + 7)))) : WS a o2 i := by
  have co := R.co c hc.1 hc.2
  have om := sOr_more (S := S) (g := a (500 + 9 * c + 7)) hS (by omega)
  intro T t0 t1
  have z := s T t0 t1
  by_cases eT : T = sOr S (a (500 + 9 * c + 7))
  · subst eT
    rw [e2]
    split
    · refine ⟨by omega, fun _ => ?_⟩
      have zs := s S hS.1 hS.2
      have hb := om.2.1 h1
      have bS := sBits_b S
      rw [hb, show (sBits S + 1).toNat = (sBits S).toNat + 1 by omega]
      exact ⟨c, S, o S + 1, hc, zs.2 (by omega), by omega, h3, rfl, rfl⟩
    · exact z
  · rw [e T eT]; exact z
