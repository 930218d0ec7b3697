/-! the reference's reader against the grammar: ONE, ASK, EITHER -/
theorem len_c (q : Itm) (F : List Itm) : ((q :: F).length : Int) = (F.length : Int) + 1 := Int.natCast_succ _
theorem fl_3 {d : Int} {P W : List Itm} (h : PDd d P) (hW : ∀ q ∈ W, q.2 < d) : wkW 3 d (P ++ W) = W ∧ wkR 3 d (P ++ W) = flW P := wk_app P h.2 (wk_low hW).1 (wk_low hW).2
theorem PD_len {F P W R : List Itm} {ts : List Tok} {d : Int} (h : PDd d P) (hW : W.length + 2 ≤ 2 * F.length) (rm : Rm F (P ++ W) R ts) : WOk F (P ++ W) R := Rm_w rm (by rw [List.length_append]; have := h.1; omega)
/-- the room of one thing: n levels are left -/
def Rn (n' : Nat) (F W R : List Itm) (ts : List Tok) : Prop := opn F + n' = 9 ∧ 1 ≤ n' ∧ 1 ≤ F.length ∧ (F.length : Int) ≤ opn F + 2 ∧ W.length ≤ 2 * F.length ∧ (∀ q ∈ W, q.2 ≤ (F.length : Int)) ∧ dmF 7 F ≠ [] ∧ R.length + W.length + wtF F + ts.length ≤ 301
theorem opn_0 : ∀ F : List Itm, 0 ≤ opn F
  | [] => Int.le_refl _
  | q :: r => by
    have ih := opn_0 r
    unfold opn opnK
    split <;> omega
theorem Rn_f {n' : Nat} {F W R : List Itm} {ts : List Tok} (h : Rn n' F W R ts) : FOk F R := by
  obtain ⟨h1, h2, h3, h4, h5, h6, h7, h8⟩ := h
  have := opn_0 F
  exact ⟨by omega, by omega, by omega⟩
theorem GL_one (s : Int) : ∀ n' : Nat, n' ≤ 9 → GL (gOne s n') := fun n' h => GL_of (Good_one (s := s) (nb := nbS s) rfl n' h)
theorem GL_pone (s : Int) (n' : Nat) (h : n' ≤ 9) : GL (gProd (gOne s n')) := GL_prod (nb := nbS s) (lim := 41 - 3 * n') (by rw [show 41 - 3 * n' + 1 = 42 - 3 * n' by omega]; exact Good_one (s := s) rfl n' h)
theorem GL_sone (s : Int) (n' : Nat) (h : n' ≤ 9) : GL (gSum (gOne s n')) := GL_of (nb := nbS s) (b := false) (lim := 40 - 3 * n') (Good_sum (by rw [show 40 - 3 * n' + 2 = 42 - 3 * n' by omega]; exact Good_one (s := s) rfl n' h))
/-- the same thing, at frames whose top is no MINUS -/
theorem It_of {m : jx_H} {n s : Int} {HG : jx_H → Prop} {n' : Nat} {F : List Itm} (hF : dmF 7 F = F ∧ msF 7 402 F = []) (hb : opn F + n' = 9 ∧ 1 ≤ n' ∧ 1 ≤ F.length ∧ (F.length : Int) ≤ opn F + 2) (I : ∀ (F W R : List Itm) (ts : List Tok) (h : jx_H), PM m h n 1 F W R ts → TN ts → Rn n' F W R ts → (∀ e, gOne s n' ts = .inl e → ∀ g, PE m g e.1 e.2 → HG g) → (∀ r L, gOne s n' ts = .inr (r, L) → ∀ g, PM m g n 2 (dmF 7 F) W (R ++ L ++ msF 7 402 F) r → HG g) → HG h) : It m n HG F (gOne s n') := by
  intro W R ts h P T h1 h2 rm E K
  refine I F W R ts h P T ⟨hb.1, hb.2.1, hb.2.2.1, hb.2.2.2, h1, h2, ?_, rm.2.2⟩ E fun r L he g q => K r L he g ?_
  · rw [hF.1]
    intro z
    rw [z] at hb
    exact absurd hb.2.2.1 (by decide)
  · rw [hF.1, hF.2, List.append_nil] at q
    exact q
theorem gPass_ne {d : Int} {ts : List Tok} {L : List Itm} (h : ¬ tK ts = d) : gPass d ts L = .inl (1, tB ts) := if_neg h
theorem gPass_eq {d : Int} {ts : List Tok} {L : List Itm} (h : tK ts = d) : gPass d ts L = .inr (tStep ts, L) := if_pos h
theorem no_op {k : Int} (h : ¬ opP k = true ∧ ¬ opS k = true) : ¬ (k = 43 ∨ k = 45 ∨ k = 42 ∨ k = 47) := fun z => by
  rcases z with e | e | e | e
  · exact h.2 (by rw [e]; rfl)
  · exact h.2 (by rw [e]; rfl)
  · exact h.1 (by rw [e]; rfl)
  · exact h.1 (by rw [e]; rfl)
theorem P_one {m : jx_H} {n s : Int} {HG : jx_H → Prop} (lp : LPh HG) (B : BB m n) (hs : m 1 31 = s ∧ 0 ≤ s ∧ s ≤ 6) : ∀ (n' : Nat) (F W R : List Itm) (ts : List Tok) (h : jx_H), PM m h n 1 F W R ts → TN ts → Rn n' F W R ts → (∀ e, gOne s n' ts = .inl e → ∀ g, PE m g e.1 e.2 → HG g) → (∀ r L, gOne s n' ts = .inr (r, L) → ∀ g, PM m g n 2 (dmF 7 F) W (R ++ L ++ msF 7 402 F) r → HG g) → HG h := by
  intro n'
  induction n' with
  | zero =>
    intro F W R ts h P T rn
    exact absurd rn.2.1 (by decide)
  | succ n' ih =>
    intro F W R ts h P T rn E K
    have fok := Rn_f rn
    obtain ⟨b1, b2, b3, b4, b5, b6, b7, b8⟩ := rn
    have ho := opn_0 F
    have hn9 : n' ≤ 9 := by omega
    refine lp.2.1 h P.wr P.st ?_
    -- the frame of a sign that opens, one level deeper
    have sub : ∀ f x : Int, (f = 6 ∨ f = 8 ∨ f = 9) → ¬ n' = 0 → It m n HG ((f, x) :: F) (gOne s n') := fun f x hf hn => by
      have hne : ¬ f = 7 := by omega
      have hop : opn ((f, x) :: F) = 1 + opn F := by show opnK f + opn F = _; rcases hf with rfl | rfl | rfl <;> rfl
      exact It_of ⟨if_neg hne, if_neg hne⟩ ⟨by rw [hop]; omega, by omega, by rw [List.length_cons]; omega, by rw [hop, len_c]; omega⟩ ih
    have rms : ∀ f x : Int, (f = 6 ∨ f = 8 ∨ f = 9) → ¬ n' = 0 → ∀ (W R : List Itm) (ts : List Tok), R.length + W.length + wtF F + ts.length + 1 ≤ 301 → Rm ((f, x) :: F) W R ts := fun f x hf hn W R ts hb => by
      have hop : opn ((f, x) :: F) = 1 + opn F := by show opnK f + opn F = _; rcases hf with rfl | rfl | rfl <;> rfl
      have hw : wtF ((f, x) :: F) = 1 + wtF F := by show (if f = 4 then 0 else 1) + wtF F = _; rw [if_neg (by omega)]
      exact ⟨by rw [List.length_cons]; omega, by rw [hop]; omega, by rw [hw]; omega⟩
    have hWF : ∀ f x : Int, (∀ q ∈ W, q.2 < (((f, x) :: F).length : Int)) ∧ W.length + 2 ≤ 2 * ((f, x) :: F).length := fun f x => ⟨fun q hq => by rw [len_c]; have := b6 q hq; omega, by rw [List.length_cons]; omega⟩
    by_cases k130 : tK ts = 130
    · have eq : gOne s (n' + 1) ts = gNum 9999 ts := by rw [gOne, if_pos k130]
      have e2 : gNum 9999 ts = if 9999 < tN ts then gErr 2 ts else .inr (tStep ts, [(400, tN ts)]) := by unfold gNum; rw [if_neg (fun z => z k130)]
      rw [eq, e2] at E K
      refine M_beg_num B P k130 fok b7 (fun hv g q => ?_) (fun hv g q => ?_)
      · rw [if_pos hv] at E
        exact E _ rfl g q
      · rw [if_neg hv] at K
        exact K _ _ rfl g q
    by_cases kn : 207 ≤ tK ts ∧ tK ts < 216
    · have eq : gOne s (n' + 1) ts = if 211 ≤ tK ts ∧ (s = 0 ∨ s = 1 ∨ s = 4) then gErr 5 ts else .inr (tStep ts, [(401, tK ts - 207)]) := by rw [gOne, if_neg k130, if_pos kn]
      rw [eq] at E K
      refine M_beg_name B P hs kn fok b7 (fun hv g q => ?_) (fun hv g q => ?_)
      · rw [if_pos hv] at E
        exact E _ rfl g q
      · rw [if_neg hv] at K
        exact K _ _ rfl g q
    by_cases k40 : tK ts = 40
    · have eq : gOne s (n' + 1) ts = if n' = 0 then gErr 3 ts else gBind (gSum (gOne s n') (tStep ts)) fun r L => gPass 41 r L := by rw [gOne, if_neg k130, if_neg kn, if_pos k40]
      rw [eq] at E K
      obtain ⟨t1, t2⟩ := TN_step T (by omega)
      refine M_beg_open B P 40 6 k40 (Or.inl ⟨rfl, rfl⟩) fok (fun hv g q => ?_) (fun hv g x q => ?_)
      · rw [if_pos (by omega)] at E
        exact E _ rfl g q
      · have hn0 : ¬ n' = 0 := by omega
        rw [if_neg hn0] at E K
        refine P_sum lp B (GL_one s n' hn9) (GL_pone s n' hn9) (sub 6 x (Or.inl rfl) hn0) (hWF 6 x).1 (hWF 6 x).2 q t1 (rms 6 x (Or.inl rfl) hn0 _ _ _ (by omega)) (fun e he g2 q2 => E e (by rw [he]; rfl) g2 q2) (fun r L2 he hno T2 g2 P2 R2 hP2 hR2 rm2 q2 => ?_)
        rw [he] at E K
        refine lp.2.2.1 g2 q2.wr q2.st ?_
        have w := fl_3 hP2 (hWF 6 x).1
        by_cases k41 : tK r = 41
        · refine M_go_par B q2 k41 (PD_len hP2 (hWF 6 x).2 rm2) b7 fun g3 q3 => K _ _ (gPass_eq k41) g3 ?_
          rw [w.1, w.2, hR2] at q3
          exact q3
        · exact M_go_err q2 (by have := rm2.1.2; rw [List.length_cons] at this; omega) (Or.inl rfl) (no_op hno) (fun _ => k41) (fun z => absurd z (by decide)) (fun z => absurd z (by decide)) (fun z => absurd z (by decide)) fun g3 q3 => E _ (gPass_ne k41) g3 q3
    by_cases k45 : tK ts = 45
    · have eq : gOne s (n' + 1) ts = if n' = 0 then gErr 3 ts else gBind (gOne s n' (tStep ts)) fun r L => .inr (r, L ++ [(402, 0)]) := by rw [gOne, if_neg k130, if_neg kn, if_neg k40, if_pos k45]
      rw [eq] at E K
      obtain ⟨t1, t2⟩ := TN_step T (by omega)
      refine M_beg_open B P 45 7 k45 (Or.inr ⟨rfl, rfl⟩) fok (fun hv g q => ?_) (fun hv g x q => ?_)
      · rw [if_pos (by omega)] at E
        exact E _ rfl g q
      · have hn0 : ¬ n' = 0 := by omega
        rw [if_neg hn0] at E K
        have hop : opn ((7, x) :: F) = 1 + opn F := rfl
        have hw : wtF ((7, x) :: F) = 1 + wtF F := rfl
        refine ih ((7, x) :: F) W R (tStep ts) g q t1 ⟨by rw [hop]; omega, by omega, by rw [List.length_cons]; omega, by rw [hop, len_c]; omega, by rw [List.length_cons]; omega, fun y hy => by rw [len_c]; have := b6 y hy; omega, b7, by rw [hw]; omega⟩ (fun e he g2 q2 => E e (by rw [he]; rfl) g2 q2) (fun r L he g2 q2 => ?_)
        rw [he] at K
        refine K r _ rfl g2 ?_
        have q2 : PM m g2 n 2 (dmF 7 F) W (R ++ L ++ (402, 0) :: msF 7 402 F) r := q2
        have e3 : R ++ (L ++ [(402, 0)]) ++ msF 7 402 F = R ++ L ++ (402, 0) :: msF 7 402 F := by
          simp only [List.append_assoc, List.cons_append, List.nil_append]
        rw [e3]
        exact q2
    by_cases kmm : tK ts = 219 ∨ tK ts = 220
    · have eq : gOne s (n' + 1) ts = if ¬ tK (tStep ts) = 40 then gErr 1 (tStep ts) else if n' = 0 then gErr 3 (tStep ts) else gBind (gSum (gOne s n') (tStep (tStep ts))) fun r1 L1 => gBind (gPass 44 r1 L1) fun r2 L1 => gBind (gSum (gOne s n') r2) fun r3 L2 => gBind (gPass 41 r3 (L1 ++ L2)) fun r4 L => .inr (r4, L ++ [(if tK ts = 219 then 403 else 404, 0)]) := by rw [gOne, if_neg k130, if_neg kn, if_neg k40, if_neg k45, if_pos kmm]
      rw [eq] at E K
      obtain ⟨t1, t2⟩ := TN_step T (by omega)
      refine M_beg_mm B P kmm fok (fun hv g q => ?_) (fun h40 hv g q => ?_) (fun h40 hv g q => ?_)
      · rw [if_pos hv] at E
        exact E _ rfl g q
      · rw [if_neg (fun z => z h40), if_pos (by omega)] at E
        exact E _ rfl g q
      · have hn0 : ¬ n' = 0 := by omega
        rw [if_neg (fun z => z h40), if_neg hn0] at E K
        obtain ⟨t3, t4⟩ := TN_step t1 (by omega)
        generalize hx : tK ts - 209 = x at q
        have hx2 : x = 10 ∨ x = 11 := by omega
        have hxk : (if tK ts = 219 then (403 : Int) else 404) = if x = 10 then 403 else 404 := by
          by_cases e : tK ts = 219
          · rw [if_pos e, if_pos (by omega)]
          · rw [if_neg e, if_neg (by omega)]
        rw [hxk] at E K
        refine P_sum lp B (GL_one s n' hn9) (GL_pone s n' hn9) (sub 8 x (by omega) hn0) (hWF 8 x).1 (hWF 8 x).2 q t3 (rms 8 x (by omega) hn0 _ _ _ (by omega)) (fun e he g2 q2 => E e (by rw [he]; rfl) g2 q2) (fun r L2 he hno T2 g2 P2 R2 hP2 hR2 rm2 q2 => ?_)
        rw [he] at E K
        refine lp.2.2.1 g2 q2.wr q2.st ?_
        have w := fl_3 hP2 (hWF 8 x).1
        have hgl := GL_sone s n' hn9 _ _ _ t3 he
        by_cases k44 : tK r = 44
        · have E : ∀ e, (gBind (gSum (gOne s n') (tStep r)) fun r3 L3 => gBind (gPass 41 r3 (L2 ++ L3)) fun r4 L => .inr (r4, L ++ [(if x = 10 then 403 else 404, 0)])) = Sum.inl e → ∀ g, PE m g e.1 e.2 → HG g := fun e z => E e (by
            show (gBind (gPass 44 r L2) _) = _
            rw [gPass_eq k44]
            exact z)
          have K : ∀ r5 L5, (gBind (gSum (gOne s n') (tStep r)) fun r3 L3 => gBind (gPass 41 r3 (L2 ++ L3)) fun r4 L => .inr (r4, L ++ [(if x = 10 then 403 else 404, 0)])) = Sum.inr (r5, L5) → ∀ g, PM m g n 2 (dmF 7 F) W (R ++ L5 ++ msF 7 402 F) r5 → HG g := fun r5 L5 z => K r5 L5 (by
            show (gBind (gPass 44 r L2) _) = _
            rw [gPass_eq k44]
            exact z)
          obtain ⟨t5, t6⟩ := TN_step T2 (by omega)
          refine M_go_com B q2 k44 (PD_len hP2 (hWF 8 x).2 rm2) fun g3 q3 => ?_
          rw [w.1, w.2, hR2] at q3
          refine P_sum lp B (GL_one s n' hn9) (GL_pone s n' hn9) (sub 9 x (by omega) hn0) (hWF 9 x).1 (hWF 9 x).2 q3 t5 (rms 9 x (by omega) hn0 _ _ _ (by rw [List.length_append]; omega)) (fun e he g2 q2 => E e (by rw [he]; rfl) g2 q2) (fun r3 L3 he hno T3 g4 P4 R4 hP4 hR4 rm4 q4 => ?_)
          rw [he] at E K
          refine lp.2.2.1 g4 q4.wr q4.st ?_
          have w4 := fl_3 hP4 (hWF 9 x).1
          by_cases k41 : tK r3 = 41
          · refine M_go_sec B q4 k41 (PD_len hP4 (hWF 9 x).2 rm4) b7 hx2 fun g5 q5 => K (tStep r3) (L2 ++ L3 ++ [(if x = 10 then 403 else 404, 0)]) ?_ g5 ?_
            · show gBind (gPass 41 r3 (L2 ++ L3)) _ = _
              rw [gPass_eq k41]
              rfl
            · rw [w4.1, w4.2, hR4] at q5
              have e3 : R ++ (L2 ++ L3 ++ [(if x = 10 then 403 else 404, 0)]) ++ msF 7 402 F = R ++ L2 ++ L3 ++ [(if x = 10 then 403 else 404, 0)] ++ msF 7 402 F := by simp only [List.append_assoc]
              rw [e3]
              exact q5
          · exact M_go_err q4 (by have := rm4.1.2; rw [List.length_cons] at this; omega) (Or.inr (Or.inl rfl)) (no_op hno) (fun _ => k41) (fun z => absurd z (by decide)) (fun z => absurd z (by decide)) (fun z => absurd z (by decide)) fun g3 q3 => E (1, tB r3) (by
              show gBind (gPass 41 r3 (L2 ++ L3)) _ = _
              rw [gPass_ne k41]
              rfl) g3 q3
        · exact M_go_err q2 (by have := rm2.1.2; rw [List.length_cons] at this; omega) (Or.inr (Or.inr (Or.inl rfl))) (no_op hno) (fun z => absurd z (by decide)) (fun _ => k44) (fun z => absurd z (by decide)) (fun z => absurd z (by decide)) fun g3 q3 => E (1, tB r) (by
            show gBind (gPass 44 r L2) _ = _
            rw [gPass_ne k44]
            rfl) g3 q3
    · have eq : gOne s (n' + 1) ts = gErr 1 ts := by rw [gOne, if_neg k130, if_neg kn, if_neg k40, if_neg k45, if_neg kmm]
      rw [eq] at E
      exact M_beg_err P ⟨k130, kn, k40, k45, kmm⟩ fun g q => E _ rfl g q
