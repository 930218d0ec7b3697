/-! the reference's reader against the grammar: CLAUSE, TEXT -/
theorem bsC_31 (m : jx_H) (w r : Int) : bsC m w r 1 31 = w := by
  unfold bsC
  rw [hu_row (by decide), hu_row (by decide), hu_eq]
/-- what a clause leaves: the base, the orders -/
def ClE (m m2 : jx_H) (w : Int) (L R R2 : List Itm) : Prop := (w ≤ 4 ∧ m2 = bsC m w R.length ∧ R2 = R ++ L ++ [(408, 0)]) ∨ (5 ≤ w ∧ ∃ v, L = [(400, v)] ∧ m2 = hu (bsC m w R.length) 43 w v ∧ R2 = R ++ [(408, 0)])
theorem P_clause {m : jx_H} {n : Int} {HG : jx_H → Prop} (lp : LPh HG) (B : BB m n) {told : List Int} (D : ∀ w, 0 ≤ w → w < 7 → m 42 w = if w ∈ told then 1 else 0) {R : List Itm} {ts : List Tok} {h : jx_H} (P : PM m h n 4 [] [] R ts) (T : TN ts) (h0 : ¬ tK ts = 0) (hb : R.length + ts.length ≤ 301) (E : ∀ e, gClause told ts = .inl e → ∀ g, PE m g e.1 e.2 → HG g) (K : ∀ r L, gClause told ts = .inr (r, L) → ∀ g m2 R2, ClE m m2 (tK ts - 200) L R R2 → PM m2 g n 4 [] [] R2 r → HG g) : HG h := by
  obtain ⟨⟨ko, -, h18⟩, -, -⟩ := MTs_hd P.mt
  refine lp.2.2.2.2 h P.wr P.st (by rw [h18]; unfold mS; rw [if_neg h0]; (repeat' split) <;> omega) ?_
  by_cases hk : 200 ≤ tK ts ∧ tK ts ≤ 206
  case neg =>
    refine M_clause_no P hk fun g q => E (1, tB ts) ?_ g q
    unfold gClause
    rw [if_pos hk]
    rfl
  have D1 := D (tK ts - 200) (by omega) (by omega)
  by_cases ht : (tK ts - 200) ∈ told
  case pos =>
    rw [if_pos ht] at D1
    refine M_clause_old P hk D1 fun g q => E (4, tB ts) ?_ g q
    unfold gClause
    rw [if_neg (fun z => z hk), if_pos ht]
    rfl
  rw [if_neg ht] at D1
  have eq : gClause told ts = gBind (gBody (tK ts - 200) (tStep ts)) fun r L => gPass 59 r L := by
    unfold gClause
    rw [if_neg (fun z => z hk), if_neg ht]
  rw [eq] at E K
  obtain ⟨t1, t2⟩ := TN_step T h0
  by_cases h5 : 205 ≤ tK ts
  · have num : ∀ hi : Int, ((tK ts = 205 ∧ hi = 60) ∨ (tK ts = 206 ∧ hi = 100)) → jx_Cal wM 14 hX12_clause [vr 1] h (fun _ g => HG g) := by
      intro hi hk2
      have eb : gBody (tK ts - 200) (tStep ts) = gNum hi (tStep ts) := by
        unfold gBody
        rcases hk2 with ⟨e, rfl⟩ | ⟨e, rfl⟩
        · rw [if_neg (by omega), if_pos (by omega)]
        · rw [if_neg (by omega), if_neg (by omega), if_pos (by omega)]
      rw [eb] at E K
      refine M_clause_num B P (by omega) hk2 D1 (fun a g q => E (1, tB (tStep ts)) ?_ g q) (fun a a2 g q => E (2, tB (tStep ts)) ?_ g q) (fun a a2 a3 g q => E (1, tB (tStep (tStep ts))) ?_ g q) (fun a a2 a3 g q => K (tStep (tStep (tStep ts))) [(400, tN (tStep ts))] ?_ g _ _ (Or.inr ⟨by omega, _, rfl, rfl, rfl⟩) q)
      · unfold gNum
        rw [if_pos a]
        rfl
      · unfold gNum
        rw [if_neg (fun z => z a), if_pos a2]
        rfl
      · unfold gNum
        rw [if_neg (fun z => z a), if_neg a2]
        show gPass 59 (tStep (tStep ts)) _ = _
        exact gPass_ne a3
      · unfold gNum
        rw [if_neg (fun z => z a), if_neg a2]
        show gPass 59 (tStep (tStep ts)) _ = _
        exact gPass_eq a3
    by_cases e : tK ts = 205
    · exact num 60 (Or.inl ⟨e, rfl⟩)
    · exact num 100 (Or.inr ⟨by omega, rfl⟩)
  · refine M_clause_sum B P (Nat.zero_le _) (by omega) (by omega) D1 fun g x q => ?_
    have BC := BB_bsC B (tK ts - 200) R.length
    have hs : bsC m (tK ts - 200) R.length 1 31 = tK ts - 200 ∧ 0 ≤ tK ts - 200 ∧ tK ts - 200 ≤ 6 := ⟨bsC_31 _ _ _, by omega, by omega⟩
    have E2 : ∀ e, (gBind (gBody (tK ts - 200) (tStep ts)) fun r L => gPass 59 r L) = .inl e → ∀ g, PE (bsC m (tK ts - 200) R.length) g e.1 e.2 → HG g := fun e z g q => E e z g (PE_bsC q)
    have K2 : ∀ r L, (gBind (gBody (tK ts - 200) (tStep ts)) fun r L => gPass 59 r L) = .inr (r, L) → ∀ g, PM (bsC m (tK ts - 200) R.length) g n 4 [] [] (R ++ L ++ [(408, 0)]) r → HG g := fun r L z g q => K r L z g _ _ (Or.inl ⟨by omega, rfl, rfl⟩) q
    clear E K P B D D1 ko h18
    by_cases k0 : tK ts = 200
    · rw [if_pos k0, if_pos k0] at q
      have eb : gBody (tK ts - 200) (tStep ts) = gEither (tK ts - 200) (tStep ts) := by unfold gBody; rw [if_pos (by omega)]
      rw [eb] at E2 K2
      unfold gEither at E2 K2
      generalize tK ts - 200 = s at *
      generalize bsC m s R.length = m2 at *
      refine P_ask lp BC hs 9 [(2, x)] [] R (tStep ts) g q t1 ⟨rfl, by decide, Nat.le_refl _, (by decide : (1 : Int) ≤ 0 + 1), Nat.zero_le _, (fun y hy => by cases hy), (by intro z; cases z), by show R.length + 0 + 1 + (tStep ts).length ≤ 301; omega⟩ (fun e he g2 q2 => E2 e (by rw [he]; rfl) g2 q2) (fun r L he g2 q2 => ?_)
      have hg := GL_ask s 9 (Nat.le_refl _) _ _ _ t1 he
      rw [he] at E2 K2
      have q2 : PM m2 g2 n 3 [(2, x)] ([] ++ orW false) (R ++ L ++ []) r := q2
      rw [List.append_nil] at q2
      refine P_ei lp BC hs (R0 := R) (tStep ts).length r false L [] (R ++ L) g2 (by omega) q2 hg.1 (Or.inl rfl) (by show R ++ L ++ [] = _; rw [List.append_nil]) (by
        show (R ++ L).length + 0 + 1 + r.length ≤ 301
        rw [List.length_append]
        have := hg.2.1
        omega) (fun e z g3 q3 => E2 e (by
          show gBind (gEi s (tStep ts).length r false L) _ = _
          rw [z]; rfl) g3 q3) (fun r3 L3 z hno T3 g3 W3 R3 hw3 hl3 hb3 q3 => ?_)
      have ok : WOk [(2, x)] W3 R3 := ⟨(by decide : 1 ≤ 39), ⟨(by decide : (0 : Int) ≤ 0), (by decide : (0 : Int) ≤ 8)⟩, by omega, by show R3.length + W3.length + 1 ≤ 330; omega⟩
      refine lp.2.2.2.1 g3 q3.wr q3.st ?_
      by_cases k59 : tK r3 = 59
      · refine M_on_end BC q3 k59 ok fun g4 q4 => K2 (tStep r3) L3 ?_ g4 ?_
        · show gBind (gEi s (tStep ts).length r false L) _ = _
          rw [z]
          exact gPass_eq k59
        · rw [hw3.1, hw3.2] at q4
          exact q4
      · refine M_on_err q3 ⟨k59, hno.1, hno.2⟩ fun g4 q4 => E2 (1, tB r3) ?_ g4 q4
        show gBind (gEi s (tStep ts).length r false L) _ = _
        rw [z]
        exact gPass_ne k59
    · rw [if_neg k0, if_neg k0] at q
      have eb : gBody (tK ts - 200) (tStep ts) = gSum (gOne (tK ts - 200) 9) (tStep ts) := by unfold gBody; rw [if_neg (by omega), if_neg (by omega), if_neg (by omega)]
      rw [eb] at E2 K2
      generalize tK ts - 200 = s at *
      generalize bsC m s R.length = m2 at *
      have hne : ¬ (1 : Int) = 7 := by decide
      have sub : It m2 n HG [(1, x)] (gOne s 9) := It_of ⟨if_neg hne, if_neg hne⟩ ⟨rfl, by decide, Nat.le_refl _, (by decide : (1 : Int) ≤ 0 + 2)⟩ (P_one lp BC hs 9)
      refine P_sum lp BC (W0 := []) (GL_one s 9 (Nat.le_refl _)) (GL_pone s 9 (Nat.le_refl _)) sub (fun y hy => by cases hy) (Nat.le_refl 2) q t1 ⟨⟨Nat.le_refl _, (by decide : 1 ≤ 10)⟩, ⟨(by decide : (0 : Int) ≤ 0), (by decide : (0 : Int) ≤ 8)⟩, by show R.length + 0 + 1 + (tStep ts).length ≤ 301; omega⟩ (fun e he g2 q2 => E2 e (by rw [he]; rfl) g2 q2) (fun r L2 he hno T2 g2 P2 R2 hP2 hR2 rm2 q2 => ?_)
      rw [he] at E2 K2
      refine lp.2.2.1 g2 q2.wr q2.st ?_
      have w := wk_app P2 (r := 1) (d := (([(1, x)] : List Itm).length : Int)) (W := []) (fun y hy => ⟨(hP2.2 y hy).1, by have := (hP2.2 y hy).2; omega⟩) rfl rfl
      by_cases k59 : tK r = 59
      · refine M_go_end BC q2 k59 rfl (PD_len (W := []) hP2 (Nat.le_refl 2) rm2) fun g3 q3 => K2 (tStep r) L2 (gPass_eq k59) g3 ?_
        rw [w.1, w.2, hR2] at q3
        exact q3
      · exact M_go_err q2 (Nat.zero_le _) (Or.inr (Or.inr (Or.inr (Or.inr rfl)))) (no_op hno) (fun z => absurd z (by decide)) (fun z => absurd z (by decide)) (fun z => absurd z (by decide)) (fun _ => k59) fun g3 q3 => E2 (1, tB r) (gPass_ne k59) g3 q3
/-- the clauses that were read, in the reference's rows -/
def CLr (m : jx_H) (R : List Itm) (q : Int × List Itm) : Prop := (0 ≤ q.1 ∧ q.1 ≤ 6) ∧ (q.1 ≤ 4 → ∃ p : Nat, m 44 q.1 = (p : Int) ∧ p ≤ R.length ∧ ∃ S, R.drop p = q.2 ++ (408, 0) :: S) ∧ (5 ≤ q.1 → ∃ v, q.2 = [(400, v)] ∧ m 43 q.1 = v) ∧ ∃ p : Nat, m 44 q.1 = (p : Int) ∧ p ≤ 301
def TR (m0 m : jx_H) (R : List Itm) (acc : List (Int × List Itm)) : Prop := (∀ b, b ≠ 1 → b ≠ 42 → b ≠ 43 → b ≠ 44 → m b = m0 b) ∧ (∀ x, x ≠ 31 → m 1 x = m0 1 x) ∧ (∀ w, 0 ≤ w → w < 7 → m 42 w = if w ∈ acc.map (fun q => q.1) then 1 else 0) ∧ ∀ q ∈ acc, CLr m R q
theorem TR_new {m0 m m2 : jx_H} {R R2 : List Itm} {acc : List (Int × List Itm)} {w : Int} {L : List Itm} (t : TR m0 m R acc) (hw : 0 ≤ w ∧ w ≤ 6) (hn : w ∉ acc.map (fun q => q.1)) (hR : R.length ≤ 301) (c : ClE m m2 w L R R2) : TR m0 m2 R2 ((w, L) :: acc) := by
  obtain ⟨v, hm, X, hX, hL⟩ : ∃ v, m2 = hu (bsC m w R.length) 43 w v ∧ ∃ X, R2 = R ++ X ∧ ((w ≤ 4 → X = L ++ [(408, 0)]) ∧ (5 ≤ w → L = [(400, v)])) := by
    rcases c with ⟨c1, c2, c3⟩ | ⟨c1, v, c2, c3, c4⟩
    · refine ⟨0, ?_, L ++ [(408, 0)], by rw [c3, List.append_assoc], fun _ => rfl, fun z => by omega⟩
      rw [c2]
      unfold bsC
      funext a b
      by_cases e : a = 43 ∧ b = w
      · rw [e.1, e.2, hu_eq, hu_eq]
      · show (if a = 43 ∧ b = w then _ else _) = (if a = 43 ∧ b = w then _ else (if a = 43 ∧ b = w then _ else _))
        rw [if_neg e, if_neg e]
    · exact ⟨v, c3, _, c4, fun z => by omega, fun _ => c2⟩
  have r42 : ∀ x, m2 42 x = if x = w then 1 else m 42 x := fun x => by
    rw [hm]; unfold bsC
    rw [hu_row (by decide), hu_row (by decide), hu_row (by decide), hu_row (by decide)]
    by_cases e : x = w
    · rw [if_pos e, e, hu_eq]
    · rw [if_neg e, hu_ni e]
  have r44 : ∀ x, m2 44 x = if x = w then (R.length : Int) else m 44 x := fun x => by
    rw [hm]; unfold bsC
    rw [hu_row (by decide), hu_row (by decide)]
    by_cases e : x = w
    · rw [if_pos e, e, hu_eq]
    · rw [if_neg e, hu_ni e, hu_row (by decide), hu_row (by decide)]
  have r43 : ∀ x, m2 43 x = if x = w then v else m 43 x := fun x => by
    rw [hm]; unfold bsC
    by_cases e : x = w
    · rw [if_pos e, e, hu_eq]
    · rw [if_neg e, hu_ni e, hu_ni e, hu_row (by decide), hu_row (by decide), hu_row (by decide)]
  refine ⟨fun b b1 b2 b3 b4 => ?_, fun x hx => ?_, fun y y0 y1 => ?_, fun q hq => ?_⟩
  · rw [hm]; unfold bsC
    rw [hu_row b3, hu_row b3, hu_row b4, hu_row b1, hu_row b2]
    exact t.1 b b1 b2 b3 b4
  · rw [hm]; unfold bsC
    rw [hu_row (by decide), hu_row (by decide), hu_row (by decide), hu_ni hx, hu_row (by decide)]
    exact t.2.1 x hx
  · rw [r42]
    by_cases e : y = w
    · rw [if_pos e]
      show _ = if y ∈ w :: acc.map (fun q => q.1) then (1 : Int) else 0
      rw [if_pos (by rw [e]; exact List.mem_cons_self)]
    · rw [if_neg e, t.2.2.1 y y0 y1]
      show _ = if y ∈ w :: acc.map (fun q => q.1) then (1 : Int) else 0
      by_cases e2 : y ∈ acc.map (fun q => q.1)
      · rw [if_pos e2, if_pos (List.mem_cons_of_mem _ e2)]
      · rw [if_neg e2, if_neg (fun z => by
          rcases List.mem_cons.mp z with z | z
          · exact e z
          · exact e2 z)]
  · rcases List.mem_cons.mp hq with rfl | hq
    · refine ⟨hw, fun h4 => ⟨R.length, by rw [r44, if_pos rfl], by rw [hX, List.length_append]; omega, [], ?_⟩, fun h5 => ⟨v, hL.2 h5, by rw [r43, if_pos rfl]⟩, R.length, by rw [r44, if_pos rfl], hR⟩
      rw [hX, List.drop_left, hL.1 h4]
    · have hne : q.1 ≠ w := fun e => hn (by rw [← e]; exact List.mem_map.mpr ⟨q, hq, rfl⟩)
      obtain ⟨a1, a2, a3, p9, a9, a10⟩ := t.2.2.2 q hq
      refine ⟨a1, fun h4 => ?_, fun h5 => ?_, p9, by rw [r44, if_neg hne]; exact a9, a10⟩
      · obtain ⟨p, b1, b2, S, b3⟩ := a2 h4
        refine ⟨p, by rw [r44, if_neg hne]; exact b1, by rw [hX, List.length_append]; omega, S ++ X, ?_⟩
        rw [hX, List.drop_append_of_le_length b2, b3, List.append_assoc]
        rfl
      · obtain ⟨u, b1, b2⟩ := a3 h5
        exact ⟨u, b1, by rw [r43, if_neg hne]; exact b2⟩
theorem BB_TR {m0 m : jx_H} {n : Int} {R : List Itm} {acc : List (Int × List Itm)} (t : TR m0 m R acc) (B : BB m0 n) : BB m n := ⟨by rw [t.2.1 15 (by decide)]; exact B.1, B.2.1, by rw [t.1 16 (by decide) (by decide) (by decide) (by decide)]; exact B.2.2⟩
theorem PFw_TR {m0 m g : jx_H} {R : List Itm} {acc : List (Int × List Itm)} (t : TR m0 m R acc) (P : PFw m g) : PFw m0 g := ⟨fun b b1 b2 b3 b4 b5 b6 b7 b8 b9 b10 b11 => by rw [P.1 b b1 b2 b3 b4 b5 b6 b7 b8 b9 b10 b11]; exact t.1 b b1 b7 b8 b9, fun x hx => by rw [P.2 x hx]; exact t.2.1 x (by omega)⟩
theorem P_text {m0 : jx_H} {n : Int} {HG : jx_H → Prop} (lp : LPh HG) (B0 : BB m0 n) (k0 : Nat) (ts0 : List Tok) (E : ∀ e, gText k0 ts0 [] = .inl e → ∀ g, PE m0 g e.1 e.2 → HG g) (K : ∀ acc, gText k0 ts0 [] = .inr acc → ∀ g m R ts, TR m0 m R acc → R.length ≤ 301 → tK ts = 0 → PM m g n 4 [] [] R ts → HG g) : ∀ (k : Nat) (ts : List Tok) (acc : List (Int × List Itm)) (m : jx_H) (R : List Itm) (h : jx_H), gText k0 ts0 [] = gText k ts acc → ts.length ≤ k → TN ts → TR m0 m R acc → R.length + ts.length ≤ 301 → PM m h n 4 [] [] R ts → HG h := by
  intro k
  induction k with
  | zero =>
    intro ts acc m R h he hk T
    have := TN_pos T
    omega
  | succ k ih =>
    intro ts acc m R h he hk T t hb P
    rw [gText_s] at he
    by_cases h0 : tK ts = 0
    · rw [if_pos h0] at he
      exact K acc he h m R ts t (by omega) h0 P
    · rw [if_neg h0] at he
      have D := t.2.2.1
      refine P_clause lp (BB_TR t B0) D P T h0 hb (fun e z g q => E e (by rw [he, z]) g ⟨PFw_TR t q.1, q.2⟩) (fun r L z g m2 R2 c q => ?_)
      have hok := gClause_ok T.1 T.2 (by omega) z
      rw [z] at he
      have hlen : R2.length + r.length + 1 ≤ R.length + ts.length := by
        rcases c with ⟨c1, c2, c3⟩ | ⟨c1, v, c2, c3, c4⟩
        · rw [c3]; simp only [List.length_append, List.length_cons, List.length_nil]; omega
        · rw [c4]; simp only [List.length_append, List.length_cons, List.length_nil]; omega
      have hc := hok.2.2.2.1
      exact ih r _ m2 R2 g he (by omega) hok.1 (TR_new t hc hok.2.2.1 (by omega) c) (by omega) q
