/-! one instruction's asking grows with what stands behind it; many instructions in one go -/
theorem jx_i1_m {st : List jx_V} {f g : Int → List jx_V → Prop} (hfg : ∀ x r, f x r → g x r) : jx_i1 st f → jx_i1 st g := by
  unfold jx_i1; split <;> first | exact hfg _ _ | exact id
theorem jx_l1_m {st : List jx_V} {f g : Int → List jx_V → Prop} (hfg : ∀ x r, f x r → g x r) : jx_l1 st f → jx_l1 st g := by
  unfold jx_l1; split <;> first | exact hfg _ _ | exact id
theorem jx_a1_m {st : List jx_V} {f g : Int → List jx_V → Prop} (hfg : ∀ x r, f x r → g x r) : jx_a1 st f → jx_a1 st g := by
  unfold jx_a1; split <;> first | exact hfg _ _ | exact id
theorem jx_i2_m {st : List jx_V} {f g : Int → Int → List jx_V → Prop} (hfg : ∀ x y r, f x y r → g x y r) : jx_i2 st f → jx_i2 st g := by
  unfold jx_i2; split <;> first | exact hfg _ _ _ | exact id
theorem jx_l2_m {st : List jx_V} {f g : Int → Int → List jx_V → Prop} (hfg : ∀ x y r, f x y r → g x y r) : jx_l2 st f → jx_l2 st g := by
  unfold jx_l2; split <;> first | exact hfg _ _ _ | exact id
theorem jx_ai_m {st : List jx_V} {f g : Int → Int → List jx_V → Prop} (hfg : ∀ x y r, f x y r → g x y r) : jx_ai st f → jx_ai st g := by
  unfold jx_ai; split <;> first | exact hfg _ _ _ | exact id
theorem jx_aii_m {st : List jx_V} {f g : Int → Int → Int → List jx_V → Prop} (hfg : ∀ x y z r, f x y z r → g x y z r) : jx_aii st f → jx_aii st g := by
  unfold jx_aii; split <;> first | exact hfg _ _ _ _ | exact id
theorem jx_ail_m {st : List jx_V} {f g : Int → Int → Int → List jx_V → Prop} (hfg : ∀ x y z r, f x y z r → g x y z r) : jx_ail st f → jx_ail st g := by
  unfold jx_ail; split <;> first | exact hfg _ _ _ _ | exact id
theorem jx_lgi_m {lv : jx_L} {n : Nat} {f g : Int → Prop} (hfg : ∀ x, f x → g x) : jx_lgi lv n f → jx_lgi lv n g := by
  unfold jx_lgi; split <;> first | exact hfg _ | exact id
theorem jx_lgl_m {lv : jx_L} {n : Nat} {f g : Int → Prop} (hfg : ∀ x, f x → g x) : jx_lgl lv n f → jx_lgl lv n g := by
  unfold jx_lgl; split <;> first | exact hfg _ | exact id
theorem jx_lga_m {lv : jx_L} {n : Nat} {f g : Int → Prop} (hfg : ∀ x, f x → g x) : jx_lga lv n f → jx_lga lv n g := by
  unfold jx_lga; split <;> first | exact hfg _ | exact id
theorem jx_tsw_m {x : Int} {j j' : Int → Prop} (hj : ∀ t, j t → j' t) : ∀ (l : List Int) (k : Int), jx_tsw x j k l → jx_tsw x j' k l
  | [], _, h => h
  | _ :: r, k, h => ⟨fun e => hj _ (h.1 e), jx_tsw_m hj r (k + 1) h.2⟩
theorem jx_lsw_m {x : Int} {j j' : Int → Prop} {d : Int} (hj : ∀ t, j t → j' t) : ∀ (l : List (Int × Int)), jx_lsw x j d l → jx_lsw x j' d l
  | [], h => hj _ h
  | _ :: r, h => ⟨fun e => hj _ (h.1 e), fun e => jx_lsw_m hj r (h.2 e)⟩
theorem jx_take_m {f g : List jx_V → List jx_V → Prop} (hfg : ∀ a b, f a b → g a b) : ∀ (n : Nat) (acc st : List jx_V), jx_take n acc st f → jx_take n acc st g
  | 0, _, _, h => hfg _ _ h
  | _ + 1, _, [], h => h
  | n + 1, acc, v :: r, h => jx_take_m hfg n (v :: acc) r h
theorem jx_putf_m {w : jx_Wd} {ci tag : Nat} {z : Int} {st : List jx_V} {f g : Int → Int → List jx_V → Prop} (hfg : ∀ a x r, f a x r → g a x r) : jx_putf w ci tag z st f → jx_putf w ci tag z st g := by
  unfold jx_putf
  split <;> first
    | exact id
    | (split <;> first | exact id | exact fun h => ⟨h.1, hfg _ _ _ h.2⟩ | exact fun h => ⟨h.1, h.2.1, hfg _ _ _ h.2.2⟩)
theorem jx_jdk_m {w : jx_Wd} {n : Nat} {st : List jx_V} {h : jx_H} {k k' : List jx_V → jx_H → Prop} (hk : ∀ r h, k r h → k' r h) : jx_jdk w n st h k → jx_jdk w n st h k' := by
  unfold jx_jdk
  split
  · exact jx_i2_m fun _ _ _ q => ⟨q.1, hk _ _ q.2⟩
  · exact jx_i2_m fun _ _ _ q => ⟨q.1, hk _ _ q.2⟩
  · exact jx_i1_m fun _ _ q => ⟨q.1, hk _ _ q.2⟩
  · exact jx_l2_m fun _ _ _ q => ⟨q.1, hk _ _ q.2⟩
  · exact jx_l2_m fun _ _ _ q => ⟨q.1, hk _ _ q.2⟩
  · split
    · rintro ⟨a1, a3, a4, a5, a6, a7, a8, a9, b1, b2, b3⟩
      exact ⟨a1, a3, a4, a5, a6, a7, a8, a9, b1, b2, hk _ _ b3⟩
    · exact id
  · exact id
theorem jx_br_m {c A B A' B' : Prop} (hA : A → A') (hB : B → B') (h : jx_br c A B) : jx_br c A' B' := ⟨fun q => hA (h.1 q), fun q => hB (h.2 q)⟩
theorem jx_nx_m {w : jx_Wd} {C : jx_Hd → List jx_V → jx_H → (Int → jx_H → Prop) → Prop} {K : Int → jx_H → Prop} {rt pc : Nat} {i : Instr} {q : jx_R} {k k' : jx_L → List jx_V → jx_H → Prop} {j j' : Nat → jx_L → List jx_V → jx_H → Prop} {lv : jx_L} {st : List jx_V} {h : jx_H} (hC : jx_mono C) (hk : ∀ lv st h, k lv st h → k' lv st h) (hj : ∀ t lv st h, j t lv st h → j' t lv st h) : jx_nx w C K rt pc i q k j lv st h → jx_nx w C K rt pc i q k' j' lv st h := by
  cases i <;> dsimp only [jx_nx] <;> first
    | exact id
    | exact hk _ _ _
    | exact hj _ _ _ _
    | exact jx_lgi_m fun _ => hk _ _ _
    | exact jx_lgl_m fun _ => hk _ _ _
    | exact jx_lga_m fun _ b => ⟨b.1, hk _ _ _ b.2⟩
    | exact jx_i1_m fun _ _ => hk _ _ _
    | exact jx_i2_m fun _ _ _ => hk _ _ _
    | exact jx_l1_m fun _ _ => hk _ _ _
    | exact jx_l2_m fun _ _ _ => hk _ _ _
    | exact jx_a1_m fun _ _ => hk _ _ _
    | exact jx_a1_m fun _ _ b => ⟨b.1, hk _ _ _ b.2⟩
    | exact jx_i2_m fun _ _ _ b => ⟨b.1, hk _ _ _ b.2⟩
    | exact jx_l2_m fun _ _ _ b => ⟨b.1, hk _ _ _ b.2⟩
    | exact jx_i1_m fun _ _ b => b
    | exact jx_l1_m fun _ _ b => b
    | exact jx_a1_m fun _ _ b => b
    | exact jx_ai_m fun _ _ _ b => ⟨b.1, hk _ _ _ b.2⟩
    | exact jx_ai_m fun _ _ _ b => ⟨b.1, b.2.1, b.2.2.1, hk _ _ _ b.2.2.2⟩
    | exact jx_aii_m fun _ _ _ _ b => ⟨b.1, hk _ _ _ b.2⟩
    | exact jx_ail_m fun _ _ _ _ b => ⟨b.1, hk _ _ _ b.2⟩
    | exact jx_aii_m fun _ _ _ _ b => b.elim (fun b => Or.inl ⟨b.1, hk _ _ _ b.2⟩) (fun b => Or.inr ⟨b.1, b.2.1, hk _ _ _ b.2.2⟩)
    | exact jx_i1_m fun _ _ => jx_br_m (hj _ _ _ _) (hk _ _ _)
    | exact jx_i2_m fun _ _ _ => jx_br_m (hj _ _ _ _) (hk _ _ _)
    | exact jx_i1_m fun _ _ b => ⟨fun e => hj _ _ _ _ (b.1 e), jx_tsw_m (fun _ => hj _ _ _ _) _ _ b.2⟩
    | exact jx_i1_m fun _ _ => jx_lsw_m (fun _ => hj _ _ _ _) _
    | (split <;> first
        | exact id
        | exact hk _ _ _
        | exact fun b => ⟨b.1, hk _ _ _ b.2⟩
        | exact fun b => ⟨b.1, b.2.1, hk _ _ _ b.2.2⟩
        | exact fun b z => hk _ _ _ (b z)
        | exact jx_a1_m fun _ _ b => ⟨b.1, hk _ _ _ b.2⟩
        | exact jx_ai_m fun _ _ _ b => ⟨b.1, hk _ _ _ b.2⟩
        | exact jx_putf_m fun _ _ _ => hk _ _ _
        | exact jx_jdk_m fun _ _ => hk _ _ _
        | exact jx_take_m (fun _ _ b => ⟨b.1, b.2.1, hC _ _ _ _ _ (fun _ _ => hk _ _ _) b.2.2⟩) _ _ _)
theorem jx_nx_C {w : jx_Wd} {C C' : jx_Hd → List jx_V → jx_H → (Int → jx_H → Prop) → Prop} {K : Int → jx_H → Prop} {rt pc : Nat} {i : Instr} {q : jx_R} {k : jx_L → List jx_V → jx_H → Prop} {j : Nat → jx_L → List jx_V → jx_H → Prop} {lv : jx_L} {st : List jx_V} {h : jx_H} (hC : ∀ hd as h K, C hd as h K → C' hd as h K) : jx_nx w C K rt pc i q k j lv st h → jx_nx w C' K rt pc i q k j lv st h := by
  cases i <;> dsimp only [jx_nx] <;> first
    | exact id
    | (split <;> first
        | exact id
        | exact jx_take_m (fun _ _ b => ⟨b.1, b.2.1, hC _ _ _ _ b.2.2⟩) _ _ _)
theorem jx_at_suf (T : List jx_En) (t : Nat) : ∃ pre, T = pre ++ jx_at T t := by
  induction T with
  | nil => exact ⟨[], rfl⟩
  | cons e r ih =>
    unfold jx_at
    split
    · exact ⟨[], rfl⟩
    · obtain ⟨pre, hp⟩ := ih
      exact ⟨e :: pre, by rw [List.cons_append, ← hp]⟩
theorem jx_at_of {T pre r : List jx_En} {e : jx_En} (hn : (T.map (fun q => q.1)).Nodup) (hT : T = pre ++ e :: r) : jx_at T e.1 = e :: r := by
  subst hT
  induction pre with
  | nil => show jx_at (e :: r) e.1 = _; unfold jx_at; rw [if_pos rfl]
  | cons a l ih =>
    have h1 : a.1 ≠ e.1 := by
      rw [List.cons_append, List.map_cons, List.nodup_cons] at hn
      intro h
      exact hn.1 (List.mem_map.mpr ⟨e, by simp, h.symm⟩)
    show jx_at (a :: (l ++ e :: r)) e.1 = _
    unfold jx_at
    rw [if_neg h1]
    exact ih (by rw [List.cons_append, List.map_cons, List.nodup_cons] at hn; exact hn.2)
section JRUN
variable {w : jx_Wd} {C : jx_Hd → List jx_V → jx_H → (Int → jx_H → Prop) → Prop} {K : Int → jx_H → Prop} {rt : Nat} {T : List jx_En} {G : Nat → jx_L → List jx_V → jx_H → Prop} {stops : List (Nat × List Nat)}
theorem jx_run_ok (hn : (T.map (fun q => q.1)).Nodup) (hC : jx_mono C) (hG : jx_OK w C K rt T G) : ∀ (n : Nat) (pre suf : List jx_En) (lv : jx_L) (st : List jx_V) (h : jx_H), T = pre ++ suf → jx_run w C K rt T stops G n suf lv st h → ∃ e r, suf = e :: r ∧ G e.1 lv st h
  | n, pre, [], lv, st, h, _, hr => by cases n <;> exact hr.elim
  | 0, pre, e :: r, lv, st, h, _, hr => ⟨e, r, rfl, hr⟩
  | n + 1, pre, e :: r, lv, st, h, hT, hr => by
    refine ⟨e, r, rfl, ?_⟩
    unfold jx_run at hr
    split at hr
    · exact hG.2 _ _ _ _ _ hr
    · refine hG.1 _ _ _ _ ?_
      rw [jx_at_of hn hT]
      unfold jx_one
      refine jx_nx_m hC (fun lv st h hq => ?_) (fun t lv st h hq => ?_) hr
      · obtain ⟨e2, r2, h1, h2⟩ := jx_run_ok hn hC hG n (pre ++ [e]) r lv st h (by rw [hT]; simp) hq
        rw [h1]; exact h2
      · obtain ⟨p2, hp2⟩ := jx_at_suf T t
        obtain ⟨e2, r2, h1, h2⟩ := jx_run_ok hn hC hG n p2 (jx_at T t) lv st h hp2 hq
        rw [h1]; exact h2
/-- many instructions, from the first on -/
theorem jx_go (hn : (T.map (fun q => q.1)).Nodup) (hC : jx_mono C) (hG : jx_OK w C K rt T G) (n : Nat) (stops : List (Nat × List Nat)) {pc : Nat} {lv : jx_L} {st : List jx_V} {h : jx_H} (hr : jx_one w C K rt T stops G n (jx_at T pc) lv st h) : G pc lv st h := by
  refine hG.1 _ _ _ _ ?_
  generalize hs : jx_at T pc = suf at hr ⊢
  cases suf with
  | nil => exact hr
  | cons e r =>
    obtain ⟨pre, hp⟩ := jx_at_suf T pc
    rw [hs] at hp
    unfold jx_one at hr ⊢
    refine jx_nx_m hC (fun lv st h hq => ?_) (fun t lv st h hq => ?_) hr
    · obtain ⟨e2, r2, h1, h2⟩ := jx_run_ok hn hC hG n (pre ++ [e]) r lv st h (by rw [hp]; simp) hq
      rw [h1]; exact h2
    · obtain ⟨p2, hp2⟩ := jx_at_suf T t
      obtain ⟨e2, r2, h1, h2⟩ := jx_run_ok hn hC hG n p2 (jx_at T t) lv st h hp2 hq
      rw [h1]; exact h2
theorem jx_run_C {C' : jx_Hd → List jx_V → jx_H → (Int → jx_H → Prop) → Prop} (hm : jx_mono C) (hC : ∀ hd as h K, C' hd as h K → C hd as h K) : ∀ (n : Nat) (suf : List jx_En) (lv : jx_L) (st : List jx_V) (h : jx_H), jx_run w C' K rt T stops G n suf lv st h → jx_run w C K rt T stops G n suf lv st h
  | n, [], _, _, _, hr => by cases n <;> exact hr.elim
  | 0, e :: r, _, _, _, hr => hr
  | n + 1, e :: r, lv, st, h, hr => by
    unfold jx_run at hr ⊢
    split at hr
    · exact hr
    · exact jx_nx_m hm (fun lv st h hq => jx_run_C hm hC n r lv st h hq) (fun t lv st h hq => jx_run_C hm hC n _ lv st h hq) (jx_nx_C hC hr)
/-- the same over what stands for calls -/
theorem jx_goC {C' : jx_Hd → List jx_V → jx_H → (Int → jx_H → Prop) → Prop} (hn : (T.map (fun q => q.1)).Nodup) (hm : jx_mono C) (hG : jx_OK w C K rt T G) (hC : ∀ hd as h K, C' hd as h K → C hd as h K) (n : Nat) (stops : List (Nat × List Nat)) {pc : Nat} {lv : jx_L} {st : List jx_V} {h : jx_H} (hr : jx_one w C' K rt T stops G n (jx_at T pc) lv st h) : G pc lv st h := by
  refine jx_go hn hm hG n stops ?_
  generalize jx_at T pc = suf at hr ⊢
  cases suf with
  | nil => exact hr
  | cons e r =>
    unfold jx_one at hr ⊢
    exact jx_nx_m hm (fun lv st h hq => jx_run_C hm hC n r lv st h hq) (fun t lv st h hq => jx_run_C hm hC n _ lv st h hq) (jx_nx_C hC hr)
end JRUN
