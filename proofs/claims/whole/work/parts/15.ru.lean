/-! many instructions in one go, each end behind a conjunction -/
def jx_ru (w : jx_Wd) (C : jx_Hd → List jx_V → jx_H → (Int → jx_H → Prop) → Prop) (K : Int → jx_H → Prop) (rt : Nat) (T : List jx_En) (stops : List (Nat × List Nat)) (G : Nat → jx_L → List jx_V → jx_H → Prop) : Nat → List jx_En → jx_L → List jx_V → jx_H → Prop
  | _, [], _, _, _ => False
  | 0, e :: _, lv, st, h => G e.1 lv st h ∧ True
  | n + 1, e :: r, lv, st, h => match stops.lookup e.1 with
    | some keep => G e.1 (jx_pick lv keep) st h ∧ True
    | none => jx_nx w C K rt e.1 e.2.1 e.2.2.2 (fun lv st h => jx_ru w C K rt T stops G n r lv st h) (fun t lv st h => jx_ru w C K rt T stops G n (jx_at T t) lv st h) lv st h
def jx_on (w : jx_Wd) (C : jx_Hd → List jx_V → jx_H → (Int → jx_H → Prop) → Prop) (K : Int → jx_H → Prop) (rt : Nat) (T : List jx_En) (stops : List (Nat × List Nat)) (G : Nat → jx_L → List jx_V → jx_H → Prop) (n : Nat) : List jx_En → jx_L → List jx_V → jx_H → Prop
  | [], _, _, _ => False
  | e :: r, lv, st, h => jx_nx w C K rt e.1 e.2.1 e.2.2.2 (fun lv st h => jx_ru w C K rt T stops G n r lv st h) (fun t lv st h => jx_ru w C K rt T stops G n (jx_at T t) lv st h) lv st h
section JRU
variable {w : jx_Wd} {C : jx_Hd → List jx_V → jx_H → (Int → jx_H → Prop) → Prop} {K : Int → jx_H → Prop} {rt : Nat} {T : List jx_En} {G : Nat → jx_L → List jx_V → jx_H → Prop} {stops : List (Nat × List Nat)}
theorem jx_ru_C {C' : jx_Hd → List jx_V → jx_H → (Int → jx_H → Prop) → Prop} (hm : jx_mono C) (hC : ∀ hd as h K, C' hd as h K → C hd as h K) : ∀ (n : Nat) (suf : List jx_En) (lv : jx_L) (st : List jx_V) (h : jx_H), jx_ru w C' K rt T stops G n suf lv st h → jx_run w C K rt T stops G n suf lv st h
  | n, [], _, _, _, hr => by cases n <;> exact hr.elim
  | 0, e :: r, _, _, _, hr => hr.1
  | n + 1, e :: r, lv, st, h, hr => by
    unfold jx_ru at hr
    unfold jx_run
    cases hq0 : stops.lookup e.1 with
    | some keep => rw [hq0] at hr; exact hr.1
    | none =>
      rw [hq0] at hr
      exact jx_nx_m hm (fun lv st h hq => jx_ru_C hm hC n r lv st h hq) (fun t lv st h hq => jx_ru_C hm hC n _ lv st h hq) (jx_nx_C hC hr)
theorem jx_goR {C' : jx_Hd → List jx_V → jx_H → (Int → jx_H → Prop) → Prop} (hn : (T.map (fun q => q.1)).Nodup) (hm : jx_mono C) (hG : jx_OK w C K rt T G) (hC : ∀ hd as h K, C' hd as h K → C hd as h K) (n : Nat) (stops : List (Nat × List Nat)) {pc : Nat} {lv : jx_L} {st : List jx_V} {h : jx_H} (hr : jx_on w C' K rt T stops G n (jx_at T pc) lv st h) : G pc lv st h := by
  refine jx_go hn hm hG n stops ?_
  generalize jx_at T pc = suf at hr ⊢
  cases suf with
  | nil => exact hr
  | cons e r =>
    unfold jx_on at hr
    unfold jx_one
    exact jx_nx_m hm (fun lv st h hq => jx_ru_C hm hC n r lv st h hq) (fun t lv st h hq => jx_ru_C hm hC n _ lv st h hq) (jx_nx_C hC hr)
end JRU
