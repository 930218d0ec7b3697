/-! the reference's reader against the grammar: ASK, EITHER, CLAUSE -/
def Ra (n' : Nat) (F W R : List Itm) (ts : List Tok) : Prop := opn F + n' = 9 ∧ 1 ≤ n' ∧ 1 ≤ F.length ∧ (F.length : Int) ≤ opn F + 1 ∧ W.length ≤ 2 * F.length ∧ (∀ q ∈ W, q.2 ≤ (F.length : Int)) ∧ dmF 3 F ≠ [] ∧ R.length + W.length + wtF F + ts.length ≤ 301
theorem GL_ask (s : Int) (n' : Nat) (h : n' ≤ 9) : GL (gAsk s n') := GL_of (Good_ask (s := s) (nb := nbS s) rfl n' h)
theorem P_ask {m : jx_H} {n s : Int} {HG : jx_H → Prop} (lp : LPh HG) (B : BB m n) (hs : m 1 31 = s ∧ 0 ≤ s ∧ s ≤ 6) : ∀ (n' : Nat) (F W R : List Itm) (ts : List Tok) (h : jx_H), PM m h n 0 F W R ts → TN ts → Ra n' F W R ts → (∀ e, gAsk s n' ts = .inl e → ∀ g, PE m g e.1 e.2 → HG g) → (∀ r L, gAsk s n' ts = .inr (r, L) → ∀ g, PM m g n 3 (dmF 3 F) W (R ++ L ++ msF 3 405 F) r → HG g) → HG h := by
  intro n'
  induction n' with
  | zero =>
    intro F W R ts h P T rn
    exact absurd rn.2.1 (by decide)
  | succ n' ih =>
    intro F W R ts h P T rn E K
    obtain ⟨b1, b2, b3, b4, b5, b6, b7, b8⟩ := rn
    have ho := opn_0 F
    have hn9 : n' ≤ 9 := by omega
    have fok : FOk F R := ⟨by omega, by omega, by omega⟩
    refine lp.1 h P.wr P.st ?_
    by_cases k218 : tK ts = 218
    · have eq : gAsk s (n' + 1) ts = if n' = 0 then gErr 3 ts else gBind (gAsk s n' (tStep ts)) fun r L => .inr (r, L ++ [(405, 0)]) := by rw [gAsk, if_pos k218]
      rw [eq] at E K
      obtain ⟨t1, t2⟩ := TN_step T (by omega)
      refine M_asks_not B P k218 fok (fun hv g q => ?_) (fun hv g x q => ?_)
      · rw [if_pos (by omega)] at E
        exact E _ rfl g q
      · have hn0 : ¬ n' = 0 := by omega
        rw [if_neg hn0] at E K
        have hop : opn ((3, x) :: F) = 1 + opn F := rfl
        have hw : wtF ((3, x) :: F) = 1 + wtF F := rfl
        refine ih ((3, x) :: F) W R (tStep ts) g q t1 ⟨by rw [hop]; omega, by omega, by rw [List.length_cons]; omega, by rw [hop, len_c]; omega, by rw [List.length_cons]; omega, fun y hy => by rw [len_c]; have := b6 y hy; omega, b7, by rw [hw]; omega⟩ (fun e he g2 q2 => E e (by rw [he]; rfl) g2 q2) (fun r L he g2 q2 => ?_)
        rw [he] at K
        refine K r _ rfl g2 ?_
        have q2 : PM m g2 n 3 (dmF 3 F) W (R ++ L ++ (405, 0) :: msF 3 405 F) r := q2
        have e3 : R ++ (L ++ [(405, 0)]) ++ msF 3 405 F = R ++ L ++ (405, 0) :: msF 3 405 F := by
          simp only [List.append_assoc, List.cons_append, List.nil_append]
        rw [e3]
        exact q2
    · have eq : gAsk s (n' + 1) ts = gBind (gSum (gOne s (n' + 1)) ts) fun r L1 => if opC (tK r) = true then gBind (gSum (gOne s (n' + 1)) (tStep r)) fun r2 L2 => .inr (r2, L1 ++ L2 ++ [(cmpo (tK r), 0)]) else gErr 1 r := by rw [gAsk, if_neg k218]
      rw [eq] at E K
      have hn9 : n' + 1 ≤ 9 := by omega
      have sub : ∀ f x : Int, (f = 4 ∨ f = 5) → It m n HG ((f, x) :: F) (gOne s (n' + 1)) := fun f x hf => by
        have hne : ¬ f = 7 := by omega
        have hop : opn ((f, x) :: F) = opn F := by show opnK f + opn F = _; rcases hf with rfl | rfl <;> exact Int.zero_add _
        exact It_of ⟨if_neg hne, if_neg hne⟩ ⟨by rw [hop]; omega, by omega, by rw [List.length_cons]; omega, by rw [hop, len_c]; omega⟩ (P_one lp B hs (n' + 1))
      have hop : ∀ f x : Int, (f = 4 ∨ f = 5) → opn ((f, x) :: F) = opn F := fun f x hf => by show opnK f + opn F = _; rcases hf with rfl | rfl <;> exact Int.zero_add _
      have hWF : ∀ f x : Int, (∀ q ∈ W, q.2 < (((f, x) :: F).length : Int)) ∧ W.length + 2 ≤ 2 * ((f, x) :: F).length := fun f x => ⟨fun q hq => by rw [len_c]; have := b6 q hq; omega, by rw [List.length_cons]; omega⟩
      refine M_asks_left P k218 (by omega) fun g x q => ?_
      refine P_sum lp B (GL_one s (n' + 1) hn9) (GL_pone s (n' + 1) hn9) (sub 4 x (Or.inl rfl)) (hWF 4 x).1 (hWF 4 x).2 q T ⟨by rw [List.length_cons]; omega, by rw [hop 4 x (Or.inl rfl)]; omega, by show R.length + W.length + (0 + wtF F) + ts.length ≤ 301; omega⟩ (fun e he g2 q2 => E e (by rw [he]; rfl) g2 q2) (fun r L2 he hno T2 g2 P2 R2 hP2 hR2 rm2 q2 => ?_)
      have hgl := GL_sone s (n' + 1) hn9 _ _ _ T he
      rw [he] at E K
      refine lp.2.2.1 g2 q2.wr q2.st ?_
      have w := fl_3 hP2 (hWF 4 x).1
      by_cases hoc : opC (tK r) = true
      · have E : ∀ e, (gBind (gSum (gOne s (n' + 1)) (tStep r)) fun r2 L3 => .inr (r2, L2 ++ L3 ++ [(cmpo (tK r), 0)])) = Sum.inl e → ∀ g, PE m g e.1 e.2 → HG g := fun e z => E e ((if_pos hoc).trans z)
        have K : ∀ r5 L5, (gBind (gSum (gOne s (n' + 1)) (tStep r)) fun r2 L3 => .inr (r2, L2 ++ L3 ++ [(cmpo (tK r), 0)])) = Sum.inr (r5, L5) → ∀ g, PM m g n 3 (dmF 3 F) W (R ++ L5 ++ msF 3 405 F) r5 → HG g := fun r5 L5 z => K r5 L5 ((if_pos hoc).trans z)
        have hk0 : ¬ tK r = 0 := by
          have := of_decide_eq_true hoc
          omega
        obtain ⟨t5, t6⟩ := TN_step T2 hk0
        refine M_go_cmp B q2 hoc (PD_len hP2 (hWF 4 x).2 rm2) fun g3 q3 => ?_
        rw [w.1, w.2, hR2] at q3
        have hcb : 0 ≤ cmpo (tK r) ∧ cmpo (tK r) ≤ 400 := by
          have := cmpo_cm hoc
          omega
        generalize cmpo (tK r) = c at *
        refine P_sum lp B (GL_one s (n' + 1) hn9) (GL_pone s (n' + 1) hn9) (sub 5 c (Or.inr rfl)) (hWF 5 c).1 (hWF 5 c).2 q3 t5 ⟨by rw [List.length_cons]; omega, by rw [hop 5 c (Or.inr rfl)]; omega, by show (R ++ L2).length + W.length + (1 + wtF F) + (tStep r).length ≤ 301; rw [List.length_append]; omega⟩ (fun e he g2 q2 => E e (by rw [he]; rfl) g2 q2) (fun r3 L3 he hno T3 g4 P4 R4 hP4 hR4 rm4 q4 => ?_)
        rw [he] at K
        refine lp.2.2.1 g4 q4.wr q4.st ?_
        have w4 := fl_3 hP4 (hWF 5 c).1
        refine M_go_right q4 (no_op hno) (PD_len hP4 (hWF 5 c).2 rm4) b7 hcb fun g5 q5 => K r3 (L2 ++ L3 ++ [(c, 0)]) rfl g5 ?_
        rw [w4.1, w4.2, hR4] at q5
        have e3 : R ++ (L2 ++ L3 ++ [(c, 0)]) ++ msF 3 405 F = R ++ L2 ++ L3 ++ [(c, 0)] ++ msF 3 405 F := by simp only [List.append_assoc]
        rw [e3]
        exact q5
      · exact M_go_err q2 (by have := rm2.1.2; rw [List.length_cons] at this; omega) (Or.inr (Or.inr (Or.inr (Or.inl rfl)))) (no_op hno) (fun z => absurd z (by decide)) (fun z => absurd z (by decide)) (fun _ => hoc) (fun z => absurd z (by decide)) fun g3 q3 => E (1, tB r) ((if_neg hoc).trans rfl) g3 q3
/-- what waits among the asks of a member clause -/
def isN (Q : List Itm) : Prop := Q = [] ∨ Q = [(406, 1)]
def orW (w : Bool) : List Itm := if w = true then [(407, 1)] else []
theorem orW_fl (w : Bool) (L : List Itm) : L ++ flW (orW w) = orIf w L := by
  cases w
  · show L ++ [] = L
    rw [List.append_nil]
  · rfl
theorem wk_e {Q : List Itm} {w : Bool} (hQ : isN Q) : (wkW 1 1 (Q ++ orW w) = [] ∧ wkR 1 1 (Q ++ orW w) = flW Q ++ flW (orW w)) ∧ (wkW 2 1 (Q ++ orW w) = orW w ∧ wkR 2 1 (Q ++ orW w) = flW Q) ∧ (Q ++ orW w).length ≤ 2 ∧ (∀ q ∈ Q ++ orW w, q.2 ≤ 1) ∧ (orW w).length ≤ 1 ∧ ∀ q ∈ orW w, q.2 ≤ 1 := by
  rcases hQ with rfl | rfl <;> cases w <;> decide
theorem P_ei {m : jx_H} {n s x : Int} {HG : jx_H → Prop} (lp : LPh HG) (B : BB m n) (hs : m 1 31 = s ∧ 0 ≤ s ∧ s ≤ 6) {R0 : List Itm} : ∀ (k : Nat) (ts : List Tok) (w : Bool) (L Q R : List Itm) (h : jx_H), ts.length ≤ k → PM m h n 3 [(2, x)] (Q ++ orW w) R ts → TN ts → isN Q → R ++ flW Q = R0 ++ L → R.length + (Q ++ orW w).length + 1 + ts.length ≤ 301 → (∀ e, gEi s k ts w L = .inl e → ∀ g, PE m g e.1 e.2 → HG g) → (∀ r L2, gEi s k ts w L = .inr (r, L2) → (¬ tK r = 216 ∧ ¬ tK r = 217) → TN r → ∀ g W2 R2, (wkW 1 1 W2 = [] ∧ R2 ++ wkR 1 1 W2 = R0 ++ L2) → W2.length ≤ 2 → R2.length + W2.length + 1 + r.length ≤ 301 → PM m g n 3 [(2, x)] W2 R2 r → HG g) → HG h := by
  intro k
  induction k with
  | zero =>
    intro ts w L Q R h hk P T
    have := TN_pos T
    omega
  | succ k ih =>
    intro ts w L Q R h hk P T hQ hR rm E K
    obtain ⟨⟨w1, w2⟩, ⟨w3, w4⟩, w5, w6, w7, w8⟩ := wk_e (w := w) hQ
    have ok : WOk [(2, x)] (Q ++ orW w) R := ⟨(by decide : 1 ≤ 39), ⟨(by decide : (0 : Int) ≤ 0), (by decide : (0 : Int) ≤ 8)⟩, by omega, by show R.length + (Q ++ orW w).length + 1 ≤ 330; omega⟩
    have hgk := GL_ask s 9 (Nat.le_refl _)
    by_cases k216 : tK ts = 216
    · have eq : gEi s (k + 1) ts w L = gBind (gAsk s 9 (tStep ts)) fun r L2 => gEi s k r true (orIf w L ++ L2) := by rw [gEi, if_pos k216]
      rw [eq] at E K
      obtain ⟨t1, t2⟩ := TN_step T (by omega)
      refine lp.2.2.2.1 h P.wr P.st ?_
      refine M_on_op B P 407 (Or.inl ⟨k216, rfl⟩) ok fun g q => ?_
      have q : PM m g n 0 [(2, x)] ((407, 1) :: wkW 1 1 (Q ++ orW w)) (R ++ wkR 1 1 (Q ++ orW w)) (tStep ts) := q
      rw [w1, w2, ← List.append_assoc, hR, List.append_assoc, orW_fl] at q
      have hl : (R0 ++ orIf w L).length ≤ R.length + (Q ++ orW w).length := by
        rw [← orW_fl, ← List.append_assoc, ← hR]
        unfold flW
        simp only [List.length_append, List.length_map]
        omega
      refine P_ask lp B hs 9 [(2, x)] [(407, 1)] (R0 ++ orIf w L) (tStep ts) g q t1 ⟨rfl, by decide, Nat.le_refl _, (by decide : (1 : Int) ≤ 0 + 1), (by decide : 1 ≤ 2), fun y hy => by cases List.mem_singleton.mp hy; exact Int.le_refl _, (by intro z; cases z), by show (R0 ++ orIf w L).length + 1 + 1 + (tStep ts).length ≤ 301; omega⟩ (fun e he g2 q2 => E e (by rw [he]; rfl) g2 q2) (fun r L2 he g2 q2 => ?_)
      have hg := hgk _ _ _ t1 he
      rw [he] at E K
      have q2 : PM m g2 n 3 [(2, x)] [(407, 1)] (R0 ++ orIf w L ++ L2 ++ []) r := q2
      rw [List.append_nil] at q2
      refine ih r true (orIf w L ++ L2) [] (R0 ++ orIf w L ++ L2) g2 (by omega) q2 hg.1 (Or.inl rfl) (by show R0 ++ orIf w L ++ L2 ++ [] = _; rw [List.append_nil, List.append_assoc]) ?_ E K
      show (R0 ++ orIf w L ++ L2).length + 1 + 1 + r.length ≤ 301
      rw [List.length_append]
      have := hg.2.1
      omega
    by_cases k217 : tK ts = 217
    · have eq : gEi s (k + 1) ts w L = gBind (gAsk s 9 (tStep ts)) fun r L2 => gEi s k r w (L ++ L2 ++ [(406, 0)]) := by rw [gEi, if_neg k216, if_pos k217]
      rw [eq] at E K
      obtain ⟨t1, t2⟩ := TN_step T (by omega)
      refine lp.2.2.2.1 h P.wr P.st ?_
      refine M_on_op B P 406 (Or.inr ⟨k217, rfl⟩) ok fun g q => ?_
      have q : PM m g n 0 [(2, x)] ((406, 1) :: wkW 2 1 (Q ++ orW w)) (R ++ wkR 2 1 (Q ++ orW w)) (tStep ts) := q
      rw [w3, w4, hR] at q
      have hl : (R0 ++ L).length = R.length + Q.length := by
        rw [← hR]
        unfold flW
        simp only [List.length_append, List.length_map]
      rw [List.length_append] at rm
      refine P_ask lp B hs 9 [(2, x)] ((406, 1) :: orW w) (R0 ++ L) (tStep ts) g q t1 ⟨rfl, by decide, Nat.le_refl _, (by decide : (1 : Int) ≤ 0 + 1), (by show (orW w).length + 1 ≤ 2; omega), fun y hy => by
        rcases List.mem_cons.mp hy with rfl | hy
        · exact Int.le_refl _
        · exact w8 y hy, (by intro z; cases z), by show (R0 ++ L).length + ((orW w).length + 1) + 1 + (tStep ts).length ≤ 301; omega⟩ (fun e he g2 q2 => E e (by rw [he]; rfl) g2 q2) (fun r L2 he g2 q2 => ?_)
      have hg := hgk _ _ _ t1 he
      rw [he] at E K
      have q2 : PM m g2 n 3 [(2, x)] ([(406, 1)] ++ orW w) (R0 ++ L ++ L2 ++ []) r := q2
      rw [List.append_nil] at q2
      refine ih r w (L ++ L2 ++ [(406, 0)]) [(406, 1)] (R0 ++ L ++ L2) g2 (by omega) q2 hg.1 (Or.inr rfl) (by show R0 ++ L ++ L2 ++ [(406, 0)] = _; simp only [List.append_assoc]) ?_ E K
      show (R0 ++ L ++ L2).length + ((orW w).length + 1) + 1 + r.length ≤ 301
      rw [List.length_append]
      have := hg.2.1
      omega
    · have eq : gEi s (k + 1) ts w L = .inr (ts, orIf w L) := by rw [gEi, if_neg k216, if_neg k217]
      refine K ts _ eq ⟨k216, k217⟩ T h (Q ++ orW w) R ⟨w1, ?_⟩ w5 rm P
      rw [w2, ← List.append_assoc, hR, List.append_assoc, orW_fl]
