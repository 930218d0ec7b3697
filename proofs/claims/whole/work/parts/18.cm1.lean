/-! the reference's small methods, opened at once where they are called -/
def CM1 (d : Nat) (hd : jx_Hd) (as : List jx_V) (h : jx_H) (K : Int → jx_H → Prop) : Prop := match hd.2.2.2.2.2.2.2 with
  | 126 => hd = hX12_in ∧ fM_in as h K
  | 131 => hd = hX12_handIs ∧ fM_at 100 6 60 as h K
  | 132 => hd = hX12_courseOf ∧ fM_at 500 9 24 as h K
  | 133 => hd = hX12_joinOf ∧ fM_at 1000 10 120 as h K
  | 127 => hd = hX12_isFirm ∧ fM_is 1 as h K
  | 128 => hd = hX12_isHand ∧ fM_is 2 as h K
  | 129 => hd = hX12_isJoined ∧ fM_is 6 as h K
  | 130 => hd = hX12_isMonth ∧ fM_to 599 as h K
  | 171 => hd = hX12_isSort ∧ fM_to 6 as h K
  | 143 => hd = hX12_isLetter ∧ fM_letter as h K
  | 177 => hd = hX12_within ∧ fM_within as h K
  | 168 => hd = hX12_clipped ∧ fM_clip as h K
  | 216 => hd = hX12_far ∧ fM_far as h K
  | 153 => hd = hX12_rank ∧ fM_rank as h K
  | 160 => hd = hX12_isAsking ∧ fM_asking as h K
  | 146 => hd = hX12_isSign ∧ fM_tok 3 as h K
  | 147 => hd = hX12_isWord ∧ fM_tok 1 as h K
  | 148 => hd = hX12_errs ∧ fM_errs as h K
  | 149 => hd = hX12_emits ∧ fM_emits as h K
  | 150 => hd = hX12_opensFrame ∧ fM_opensFrame as h K
  | 151 => hd = hX12_top ∧ fM_top as h K
  | 176 => hd = hX12_numberOf ∧ fM_numberOf as h K
  | _ => jx_C wM d hd as h K
theorem CM1_ok {d : Nat} (hd2 : 3 ≤ d) (hd : jx_Hd) (as : List jx_V) (h : jx_H) (K : Int → jx_H → Prop) (q : CM1 d hd as h K) : jx_C wM d hd as h K := by
  unfold CM1 at q
  split at q
  · obtain ⟨rfl, q⟩ := q
    have q0 := q
    unfold fM_in at q
    split at q
    · exact jx_C_of (M_in q0) (by omega)
    · exact q.elim
  · obtain ⟨rfl, q⟩ := q
    have q0 := q
    unfold fM_at at q
    split at q
    · obtain ⟨rfl, -⟩ := q
      exact jx_C_of (M_handIs q0) (by omega)
    · exact q.elim
  · obtain ⟨rfl, q⟩ := q
    have q0 := q
    unfold fM_at at q
    split at q
    · obtain ⟨rfl, -⟩ := q
      exact jx_C_of (M_courseOf q0) (by omega)
    · exact q.elim
  · obtain ⟨rfl, q⟩ := q
    have q0 := q
    unfold fM_at at q
    split at q
    · obtain ⟨rfl, -⟩ := q
      exact jx_C_of (M_joinOf q0) (by omega)
    · exact q.elim
  · obtain ⟨rfl, q⟩ := q
    have q0 := q
    unfold fM_is at q
    split at q
    · obtain ⟨rfl, -⟩ := q
      exact jx_C_of (M_isFirm q0) (by omega)
    · exact q.elim
  · obtain ⟨rfl, q⟩ := q
    have q0 := q
    unfold fM_is at q
    split at q
    · obtain ⟨rfl, -⟩ := q
      exact jx_C_of (M_isHand q0) (by omega)
    · exact q.elim
  · obtain ⟨rfl, q⟩ := q
    have q0 := q
    unfold fM_is at q
    split at q
    · obtain ⟨rfl, -⟩ := q
      exact jx_C_of (M_isJoined q0) (by omega)
    · exact q.elim
  · obtain ⟨rfl, q⟩ := q
    have q0 := q
    unfold fM_to at q
    split at q
    · exact jx_C_of (M_isMonth q0) (by omega)
    · exact q.elim
  · obtain ⟨rfl, q⟩ := q
    have q0 := q
    unfold fM_to at q
    split at q
    · exact jx_C_of (M_isSort q0) (by omega)
    · exact q.elim
  · obtain ⟨rfl, q⟩ := q
    have q0 := q
    unfold fM_letter at q
    split at q
    · exact jx_C_of (M_isLetter q0) (by omega)
    · exact q.elim
  · obtain ⟨rfl, q⟩ := q
    have q0 := q
    unfold fM_within at q
    split at q
    · exact jx_C_of (M_within q0) (by omega)
    · exact q.elim
  · obtain ⟨rfl, q⟩ := q
    have q0 := q
    unfold fM_clip at q
    split at q
    · exact jx_C_of (M_clipped q0) (by omega)
    · exact q.elim
  · obtain ⟨rfl, q⟩ := q
    have q0 := q
    unfold fM_far at q
    split at q
    · exact jx_C_of (M_far q0) (by omega)
    · exact q.elim
  · obtain ⟨rfl, q⟩ := q
    have q0 := q
    unfold fM_rank at q
    split at q
    · exact jx_C_of (M_rank q0) (by omega)
    · exact q.elim
  · obtain ⟨rfl, q⟩ := q
    have q0 := q
    unfold fM_asking at q
    split at q
    · exact jx_C_of (M_isAsking q0) (by omega)
    · exact q.elim
  · obtain ⟨rfl, q⟩ := q
    have q0 := q
    unfold fM_tok at q
    split at q
    · obtain ⟨rfl, -⟩ := q
      exact jx_C_of (M_isSign q0) (by omega)
    · exact q.elim
  · obtain ⟨rfl, q⟩ := q
    have q0 := q
    unfold fM_tok at q
    split at q
    · obtain ⟨rfl, -⟩ := q
      exact jx_C_of (M_isWord q0) (by omega)
    · exact q.elim
  · obtain ⟨rfl, q⟩ := q
    have q0 := q
    unfold fM_errs at q
    split at q
    · obtain ⟨rfl, -⟩ := q
      exact jx_C_of (M_errs q0) (by omega)
    · exact q.elim
  · obtain ⟨rfl, q⟩ := q
    have q0 := q
    unfold fM_emits at q
    split at q
    · obtain ⟨rfl, -⟩ := q
      exact jx_C_of (M_emits q0) (by omega)
    · exact q.elim
  · obtain ⟨rfl, q⟩ := q
    have q0 := q
    unfold fM_opensFrame at q
    split at q
    · obtain ⟨rfl, -⟩ := q
      exact jx_C_of (M_opensFrame q0) (by omega)
    · exact q.elim
  · obtain ⟨rfl, q⟩ := q
    have q0 := q
    unfold fM_top at q
    split at q
    · obtain ⟨rfl, -⟩ := q
      exact jx_C_of (M_top q0) (by omega)
    · exact q.elim
  · obtain ⟨rfl, q⟩ := q
    have q0 := q
    unfold fM_numberOf at q
    split at q
    · obtain ⟨rfl, -⟩ := q
      exact jx_C_of (M_numberOf q0) (by omega)
    · exact q.elim
  · exact q
