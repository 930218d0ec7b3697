/-! the class's small methods, opened at once where they are called -/
def CC1 (d : Nat) (hd : jx_Hd) (as : List jx_V) (h : jx_H) (K : Int → jx_H → Prop) : Prop := match hd.2.2.2.2.2.2.2 with
  | 115 => hd = hX11_isWithin ∧ fC_within as h K
  | 116 => hd = hX11_clipped ∧ fC_clip as h K
  | 117 => hd = hX11_isMonth ∧ fC_to 599 as h K
  | 118 => hd = hX11_isYear ∧ fC_to 49 as h K
  | 119 => hd = hX11_isFirm ∧ fC_is 1 as h K
  | 120 => hd = hX11_isFirmOrNone ∧ fC_non as h K
  | 121 => hd = hX11_isHand ∧ fC_is 2 as h K
  | 122 => hd = hX11_isCourse ∧ fC_is 3 as h K
  | 123 => hd = hX11_isStanding ∧ fC_standing as h K
  | 124 => hd = hX11_courseOf ∧ fC_courseOf as h K
  | 46 => hd = hX9_hasSort ∧ fC_hasSort as h K
  | 8 => hd = hX5_put ∧ fC_put as h K
  | 9 => hd = hX5_wagesOf ∧ fC_past 51 as h K
  | 10 => hd = hX5_headsOf ∧ fC_past 52 as h K
  | 11 => hd = hX5_paidWith ∧ fC_pWith as h K
  | 12 => hd = hX5_paidAhead ∧ fC_pAhead as h K
  | 5 => hd = hX4_putFirm ∧ fC_putFirm as h K
  | _ => jx_C wC d hd as h K
theorem CC1_ok {d : Nat} (hd2 : 4 ≤ d) (hd : jx_Hd) (as : List jx_V) (h : jx_H) (K : Int → jx_H → Prop) (q : CC1 d hd as h K) : jx_C wC d hd as h K := by
  unfold CC1 at q
  split at q
  · obtain ⟨rfl, q⟩ := q
    have q0 := q
    unfold fC_within at q
    split at q
    · exact jx_C_of (C_isWithin q0) (by omega)
    · exact q.elim
  · obtain ⟨rfl, q⟩ := q
    have q0 := q
    unfold fC_clip at q
    split at q
    · exact jx_C_of (C_clipped q0) (by omega)
    · exact q.elim
  · obtain ⟨rfl, q⟩ := q
    have q0 := q
    unfold fC_to at q
    split at q
    · exact jx_C_of (C_isMonth q0) (by omega)
    · exact q.elim
  · obtain ⟨rfl, q⟩ := q
    have q0 := q
    unfold fC_to at q
    split at q
    · exact jx_C_of (C_isYear q0) (by omega)
    · exact q.elim
  · obtain ⟨rfl, q⟩ := q
    have q0 := q
    unfold fC_is at q
    split at q
    · obtain ⟨rfl, -⟩ := q
      exact jx_C_of (C_isFirm q0) (by omega)
    · exact q.elim
  · obtain ⟨rfl, q⟩ := q
    have q0 := q
    unfold fC_non at q
    split at q
    · obtain ⟨rfl, -⟩ := q
      exact jx_C_of (C_isFirmOrNone q0) (by omega)
    · exact q.elim
  · obtain ⟨rfl, q⟩ := q
    have q0 := q
    unfold fC_is at q
    split at q
    · obtain ⟨rfl, -⟩ := q
      exact jx_C_of (C_isHand q0) (by omega)
    · exact q.elim
  · obtain ⟨rfl, q⟩ := q
    have q0 := q
    unfold fC_is at q
    split at q
    · obtain ⟨rfl, -⟩ := q
      exact jx_C_of (C_isCourse q0) (by omega)
    · exact q.elim
  · obtain ⟨rfl, q⟩ := q
    have q0 := q
    unfold fC_standing at q
    split at q
    · obtain ⟨rfl, -⟩ := q
      exact jx_C_of (C_isStanding q0) (by omega)
    · exact q.elim
  · obtain ⟨rfl, q⟩ := q
    have q0 := q
    unfold fC_courseOf at q
    split at q
    · obtain ⟨rfl, -⟩ := q
      exact jx_C_of (C_courseOf q0) (by omega)
    · exact q.elim
  · obtain ⟨rfl, q⟩ := q
    have q0 := q
    unfold fC_hasSort at q
    split at q
    · exact jx_C_of (C_hasSort q0) (by omega)
    · exact q.elim
  · obtain ⟨rfl, q⟩ := q
    have q0 := q
    unfold fC_put at q
    split at q
    · obtain ⟨rfl, -⟩ := q
      exact jx_C_of (C_put q0) (by omega)
    · exact q.elim
  · obtain ⟨rfl, q⟩ := q
    have q0 := q
    unfold fC_past at q
    split at q
    · obtain ⟨rfl, -⟩ := q
      exact jx_C_of (C_pWages q0) (by omega)
    · exact q.elim
  · obtain ⟨rfl, q⟩ := q
    have q0 := q
    unfold fC_past at q
    split at q
    · obtain ⟨rfl, -⟩ := q
      exact jx_C_of (C_pHeads q0) (by omega)
    · exact q.elim
  · obtain ⟨rfl, q⟩ := q
    have q0 := q
    unfold fC_pWith at q
    split at q
    · obtain ⟨rfl, -⟩ := q
      exact jx_C_of (C_paidWith q0) (by omega)
    · exact q.elim
  · obtain ⟨rfl, q⟩ := q
    have q0 := q
    unfold fC_pAhead at q
    split at q
    · obtain ⟨rfl, -⟩ := q
      exact jx_C_of (C_paidAhead q0) (by omega)
    · exact q.elim
  · obtain ⟨rfl, q⟩ := q
    have q0 := q
    unfold fC_putFirm at q
    split at q
    · obtain ⟨rfl, -⟩ := q
      exact jx_C_of (C_putFirm q0) (by omega)
    · exact q.elim
  · exact q
