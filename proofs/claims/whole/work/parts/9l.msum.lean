/-! the reference's reader against the grammar, by what comes after: PRODUCTS, SUMS -/
/-- what holds at the head of the loop, from what its methods bring -/
def LPh (HG : jx_H → Prop) : Prop := (∀ h, h 1 20 = 0 → h 1 30 = 0 → jx_Cal wM 14 hX12_asks [vr 1] h (fun _ g => HG g) → HG h) ∧ (∀ h, h 1 20 = 0 → h 1 30 = 1 → jx_Cal wM 14 hX12_begins [vr 1] h (fun _ g => HG g) → HG h) ∧ (∀ h, h 1 20 = 0 → h 1 30 = 2 → jx_Cal wM 14 hX12_goesOn [vr 1] h (fun _ g => HG g) → HG h) ∧ (∀ h, h 1 20 = 0 → h 1 30 = 3 → jx_Cal wM 14 hX12_asksOn [vr 1] h (fun _ g => HG g) → HG h) ∧ (∀ h, h 1 20 = 0 → h 1 30 = 4 → 1 ≤ h 1 18 ∧ h 1 18 ≤ 4 → jx_Cal wM 14 hX12_clause [vr 1] h (fun _ g => HG g) → HG h)
def flW (P : List Itm) : List Itm := P.map fun q => (q.1, 0)
theorem wk_app {r d : Int} : ∀ (P : List Itm) {W : List Itm}, (∀ q ∈ P, q.2 = d ∧ r ≤ s_rank q.1) → wkW r d W = W → wkR r d W = [] → wkW r d (P ++ W) = W ∧ wkR r d (P ++ W) = flW P
  | [], W, _, h2, h3 => ⟨h2, h3⟩
  | q :: P, W, h1, h2, h3 => by
    have ih := wk_app P (fun x hx => h1 x (List.mem_cons_of_mem _ hx)) h2 h3
    have hq := h1 q List.mem_cons_self
    have e1 : wkW r d (q :: (P ++ W)) = wkW r d (P ++ W) := if_pos hq
    have e2 : wkR r d (q :: (P ++ W)) = (q.1, 0) :: wkR r d (P ++ W) := if_pos hq
    exact ⟨e1.trans ih.1, by show wkR r d (q :: (P ++ W)) = _; rw [e2, ih.2]; rfl⟩
theorem wk_low {r d : Int} {W : List Itm} (h : ∀ q ∈ W, q.2 < d) : wkW r d W = W ∧ wkR r d W = [] := by
  match W, h with
  | [], _ => exact ⟨rfl, rfl⟩
  | q :: W, h =>
    have hq := h q List.mem_cons_self
    have c : ¬ (q.2 = d ∧ r ≤ s_rank q.1) := fun z => by omega
    exact ⟨if_neg c, if_neg c⟩
theorem wk_rank {r d : Int} {q : Itm} {W : List Itm} (h : s_rank q.1 < r) : wkW r d (q :: W) = q :: W ∧ wkR r d (q :: W) = [] := by
  have c : ¬ (q.2 = d ∧ r ≤ s_rank q.1) := fun z => by omega
  exact ⟨if_neg c, if_neg c⟩
/-- at most one that multiplies; that adds -/
def isQ (d : Int) (Q : List Itm) : Prop := Q = [] ∨ ∃ o, (o = 42 ∨ o = 47) ∧ Q = [(o, d)]
def isA (d : Int) (A : List Itm) : Prop := A = [] ∨ ∃ o, (o = 43 ∨ o = 45) ∧ A = [(o, d)]
theorem isQ_r {d : Int} {Q : List Itm} (h : isQ d Q) : Q.length ≤ 1 ∧ ∀ q ∈ Q, q.2 = d ∧ 4 ≤ s_rank q.1 := by
  rcases h with rfl | ⟨o, ho, rfl⟩
  · exact ⟨by decide, fun q hq => by cases hq⟩
  · refine ⟨Nat.le_refl _, fun q hq => ?_⟩
    cases List.mem_singleton.mp hq
    refine ⟨rfl, ?_⟩
    show 4 ≤ s_rank o
    rcases ho with rfl | rfl <;> decide
theorem isA_r {d : Int} {A : List Itm} (h : isA d A) : A.length ≤ 1 ∧ ∀ q ∈ A, q.2 = d ∧ 3 ≤ s_rank q.1 := by
  rcases h with rfl | ⟨o, ho, rfl⟩
  · exact ⟨by decide, fun q hq => by cases hq⟩
  · refine ⟨Nat.le_refl _, fun q hq => ?_⟩
    cases List.mem_singleton.mp hq
    refine ⟨rfl, ?_⟩
    show 3 ≤ s_rank o
    rcases ho with rfl | rfl <;> decide
theorem wk_A {d : Int} {A W : List Itm} (hA : isA d A) (hW : ∀ q ∈ W, q.2 < d) : wkW 4 d (A ++ W) = A ++ W ∧ wkR 4 d (A ++ W) = [] := by
  rcases hA with rfl | ⟨o, ho, rfl⟩
  · exact wk_low hW
  · exact wk_rank (by show s_rank o < 4; rcases ho with rfl | rfl <;> decide)
/-- lists of tokens that end well -/
def TN (ts : List Tok) : Prop := TE ts ∧ ∀ t ∈ ts, 0 ≤ t.2.1
theorem TN_step {ts : List Tok} (h : TN ts) (h0 : ¬ tK ts = 0) : TN (tStep ts) ∧ (tStep ts).length + 1 = ts.length := ⟨⟨(TE_step h.1 h0).1, tStep_mem h.2⟩, (TE_step h.1 h0).2⟩
theorem TN_pos {ts : List Tok} (h : TN ts) : 1 ≤ ts.length := by
  match ts, h with
  | [], h => exact h.1.elim
  | t :: r, _ => exact Nat.succ_le_succ (Nat.zero_le _)
def GL (item : List Tok → GR) : Prop := ∀ (ts r : List Tok) (L : List Itm), TN ts → item ts = .inr (r, L) → TN r ∧ r.length + L.length ≤ ts.length ∧ r.length < ts.length
theorem GL_of {nb : Int} {b : Bool} {lim : Nat} {item : List Tok → GR} (G : Good nb b lim item) : GL item := fun ts r L h e => by
  have q := G ts r L h.1 h.2 e
  exact ⟨q.1, q.2.1, q.2.2.1⟩
/-- the room of what waits and stands, at the frames F -/
def Rm (F W R : List Itm) (ts : List Tok) : Prop := (1 ≤ F.length ∧ F.length ≤ 10) ∧ (0 ≤ opn F ∧ opn F ≤ 8) ∧ R.length + W.length + wtF F + ts.length ≤ 301
theorem Rm_w {F W R : List Itm} {ts : List Tok} (h : Rm F W R ts) (hW : W.length ≤ 2 * F.length) : WOk F W R := by
  unfold WOk
  obtain ⟨h1, h2, h3⟩ := h
  exact ⟨by omega, h2, by omega, by omega⟩
/-- a reading of one thing at the frames F -/
def It (m : jx_H) (n : Int) (HG : jx_H → Prop) (F : List Itm) (item : List Tok → GR) : Prop := ∀ (W R : List Itm) (ts : List Tok) (h : jx_H), PM m h n 1 F W R ts → TN ts → W.length ≤ 2 * F.length → (∀ q ∈ W, q.2 ≤ (F.length : Int)) → Rm F W R ts → (∀ e, item ts = .inl e → ∀ g, PE m g e.1 e.2 → HG g) → (∀ r L, item ts = .inr (r, L) → ∀ g, PM m g n 2 F W (R ++ L) r → HG g) → HG h
theorem gLoop_stop {item : List Tok → GR} {op : Int → Bool} {k : Nat} {ts : List Tok} {L : List Itm} (h : ¬ op (tK ts) = true) : gLoop item op k ts L = .inr (ts, L) := by
  cases k with
  | zero => rfl
  | succ k => unfold gLoop; rw [if_neg h]
theorem PM_ne {m h : jx_H} {n st : Int} {F W R : List Itm} {ts : List Tok} (P : PM m h n st F W R ts) (hF : 1 ≤ F.length) : ∃ q r, F = q :: r := by
  match F, hF with
  | q :: r, _ => exact ⟨q, r, rfl⟩
theorem P_prodLoop {m : jx_H} {n : Int} {HG : jx_H → Prop} (lp : LPh HG) (B : BB m n) {F A W0 R0 : List Itm} {one : List Tok → GR} (G1 : GL one) (I : It m n HG F one) (hA : isA F.length A) (hW0 : ∀ q ∈ W0, q.2 < (F.length : Int)) (hWl : W0.length + 2 ≤ 2 * F.length) : ∀ (k : Nat) (ts : List Tok) (L Q R : List Itm) (h : jx_H), ts.length ≤ k → PM m h n 2 F (Q ++ (A ++ W0)) R ts → TN ts → isQ F.length Q → R ++ flW Q = R0 ++ L → Rm F (Q ++ (A ++ W0)) R ts → (∀ e, gLoop one opP k ts L = .inl e → ∀ g, PE m g e.1 e.2 → HG g) → (∀ r L2, gLoop one opP k ts L = .inr (r, L2) → ¬ opP (tK r) = true → TN r → ∀ g Q2 R2, isQ F.length Q2 → R2 ++ flW Q2 = R0 ++ L2 → Rm F (Q2 ++ (A ++ W0)) R2 r → PM m g n 2 F (Q2 ++ (A ++ W0)) R2 r → HG g) → HG h := by
  intro k
  induction k with
  | zero =>
    intro ts L Q R h hk P T
    have := TN_pos T
    omega
  | succ k ih =>
    intro ts L Q R h hk P T hQ hR rm E K
    by_cases hop : opP (tK ts) = true
    · have ho := of_decide_eq_true hop
      have hQr := isQ_r hQ
      have hAr := isA_r hA
      have w := wk_app Q (r := 4) (d := (F.length : Int)) (fun q hq => ⟨(hQr.2 q hq).1, (hQr.2 q hq).2⟩) (wk_A hA hW0).1 (wk_A hA hW0).2
      obtain ⟨q0, F0, eF⟩ := PM_ne P rm.1.1
      have hr4 : s_rank (tK ts) = 4 := by rcases ho with e | e <;> rw [e] <;> rfl
      have hlen : (Q ++ (A ++ W0)).length ≤ 2 * F.length := by simp only [List.length_append]; omega
      obtain ⟨t1, t2⟩ := TN_step T (by omega)
      have hl2 : (R0 ++ L).length = R.length + Q.length := by rw [← hR]; unfold flW; simp only [List.length_append, List.length_map]
      refine lp.2.2.1 h P.wr P.st ?_
      subst eF
      refine M_go_op B P (by omega) (Rm_w rm hlen) fun g q => ?_
      rw [hr4, w.1, w.2, hR] at q
      have hl3 : (R0 ++ L).length + ((tK ts, ((q0 :: F0).length : Int)) :: (A ++ W0)).length + wtF (q0 :: F0) + (tStep ts).length ≤ 301 := by
        have := rm.2.2
        simp only [List.length_append, List.length_cons] at this hl2 ⊢
        omega
      refine I _ _ _ g q t1 (by simp only [List.length_append, List.length_cons] at hWl ⊢; omega) (fun x hx => ?_) ⟨rm.1, rm.2.1, hl3⟩ (fun e he g2 q2 => E e ?_ g2 q2) (fun r L2 he g2 q2 => ?_)
      · rcases List.mem_cons.mp hx with rfl | hx
        · exact Int.le_refl _
        · rcases List.mem_append.mp hx with hx | hx
          · exact Int.le_of_eq (hAr.2 x hx).1
          · exact Int.le_of_lt (hW0 x hx)
      · unfold gLoop
        rw [if_pos hop, he]
        rfl
      · have hg := G1 _ _ _ t1 he
        have e3 : gLoop one opP (k + 1) ts L = gLoop one opP k r (L ++ L2 ++ [(tK ts, 0)]) := by
          rw [gLoop, if_pos hop, he]
          rfl
        rw [e3] at E K
        refine ih r (L ++ L2 ++ [(tK ts, 0)]) [(tK ts, ((q0 :: F0).length : Int))] (R0 ++ L ++ L2) g2 (by omega) q2 hg.1 (Or.inr ⟨_, ho, rfl⟩) ?_ ⟨rm.1, rm.2.1, ?_⟩ E K
        · show R0 ++ L ++ L2 ++ [(tK ts, 0)] = _
          simp only [List.append_assoc]
        · simp only [List.length_append, List.length_cons, List.length_nil] at hl3 ⊢
          have := hg.2.1
          omega
    · exact K ts L (gLoop_stop hop) hop T h Q R hQ hR rm P
theorem gLoop_op {item : List Tok → GR} {op : Int → Bool} {k : Nat} {ts : List Tok} {L : List Itm} (h : op (tK ts) = true) : gLoop item op (k + 1) ts L = gBind (item (tStep ts)) fun r L2 => gLoop item op k r (L ++ L2 ++ [(tK ts, 0)]) := by
  rw [gLoop, if_pos h]
theorem P_prod {m : jx_H} {n : Int} {HG : jx_H → Prop} (lp : LPh HG) (B : BB m n) {F A W0 R0 : List Itm} {one : List Tok → GR} (G1 : GL one) (I : It m n HG F one) (hA : isA F.length A) (hW0 : ∀ q ∈ W0, q.2 < (F.length : Int)) (hWl : W0.length + 2 ≤ 2 * F.length) {ts : List Tok} {h : jx_H} (P : PM m h n 1 F (A ++ W0) R0 ts) (T : TN ts) (rm : Rm F (A ++ W0) R0 ts) (E : ∀ e, gProd one ts = .inl e → ∀ g, PE m g e.1 e.2 → HG g) (K : ∀ r L2, gProd one ts = .inr (r, L2) → ¬ opP (tK r) = true → TN r → ∀ g Q2 R2, isQ F.length Q2 → R2 ++ flW Q2 = R0 ++ L2 → Rm F (Q2 ++ (A ++ W0)) R2 r → PM m g n 2 F (Q2 ++ (A ++ W0)) R2 r → HG g) : HG h := by
  have hAr := isA_r hA
  refine I _ _ _ h P T (by simp only [List.length_append]; omega) (fun x hx => ?_) rm (fun e he g2 q2 => E e ?_ g2 q2) (fun r L he g q => ?_)
  · rcases List.mem_append.mp hx with hx | hx
    · exact Int.le_of_eq (hAr.2 x hx).1
    · exact Int.le_of_lt (hW0 x hx)
  · unfold gProd
    rw [he]
    rfl
  · have hg := G1 _ _ _ T he
    have e3 : gProd one ts = gLoop one opP ts.length r L := by unfold gProd; rw [he]; rfl
    rw [e3] at E K
    refine P_prodLoop lp B G1 I hA hW0 hWl ts.length r L [] (R0 ++ L) g (by omega) q hg.1 (Or.inl rfl) (by show R0 ++ L ++ [] = _; rw [List.append_nil]) ⟨rm.1, rm.2.1, ?_⟩ E K
    have := rm.2.2
    simp only [List.length_append, List.nil_append] at this ⊢
    omega
theorem GL_prod {nb : Int} {lim : Nat} {one : List Tok → GR} (G : Good nb false (lim + 1) one) : GL (gProd one) := GL_of (Good_prod G)
/-- what waits at the depth d, of the sums -/
def PDd (d : Int) (P : List Itm) : Prop := P.length ≤ 2 ∧ ∀ q ∈ P, q.2 = d ∧ 3 ≤ s_rank q.1
theorem flW_app (P Q : List Itm) : flW (P ++ Q) = flW P ++ flW Q := List.map_append
theorem P_sumLoop {m : jx_H} {n : Int} {HG : jx_H → Prop} (lp : LPh HG) (B : BB m n) {F W0 R0 : List Itm} {one : List Tok → GR} (G1 : GL one) (G2 : GL (gProd one)) (I : It m n HG F one) (hW0 : ∀ q ∈ W0, q.2 < (F.length : Int)) (hWl : W0.length + 2 ≤ 2 * F.length) : ∀ (k : Nat) (ts : List Tok) (L A Q R : List Itm) (h : jx_H), ts.length ≤ k → PM m h n 2 F (Q ++ (A ++ W0)) R ts → TN ts → ¬ opP (tK ts) = true → isQ F.length Q → isA F.length A → R ++ flW Q ++ flW A = R0 ++ L → Rm F (Q ++ (A ++ W0)) R ts → (∀ e, gLoop (gProd one) opS k ts L = .inl e → ∀ g, PE m g e.1 e.2 → HG g) → (∀ r L2, gLoop (gProd one) opS k ts L = .inr (r, L2) → (¬ opP (tK r) = true ∧ ¬ opS (tK r) = true) → TN r → ∀ g P2 R2, PDd F.length P2 → R2 ++ flW P2 = R0 ++ L2 → Rm F (P2 ++ W0) R2 r → PM m g n 2 F (P2 ++ W0) R2 r → HG g) → HG h := by
  intro k
  induction k with
  | zero =>
    intro ts L A Q R h hk P T
    have := TN_pos T
    omega
  | succ k ih =>
    intro ts L A Q R h hk P T hnp hQ hA hR rm E K
    have hQr := isQ_r hQ
    have hAr := isA_r hA
    have hPD : PDd F.length (Q ++ A) := ⟨by rw [List.length_append]; omega, fun q hq => by
      rcases List.mem_append.mp hq with hq | hq
      · have := hQr.2 q hq; exact ⟨this.1, by omega⟩
      · exact hAr.2 q hq⟩
    have hR2 : R ++ flW (Q ++ A) = R0 ++ L := by rw [flW_app, ← List.append_assoc]; exact hR
    by_cases hop : opS (tK ts) = true
    · have ho := of_decide_eq_true hop
      have w := wk_app (Q ++ A) (r := 3) (d := (F.length : Int)) (W := W0) hPD.2 (wk_low hW0).1 (wk_low hW0).2
      obtain ⟨q0, F0, eF⟩ := PM_ne P rm.1.1
      have hr4 : s_rank (tK ts) = 3 := by rcases ho with e | e <;> rw [e] <;> rfl
      have hlen : (Q ++ (A ++ W0)).length ≤ 2 * F.length := by simp only [List.length_append]; omega
      obtain ⟨t1, t2⟩ := TN_step T (by omega)
      have hl2 : (R0 ++ L).length = R.length + Q.length + A.length := by rw [← hR]; unfold flW; simp only [List.length_append, List.length_map]
      refine lp.2.2.1 h P.wr P.st ?_
      subst eF
      refine M_go_op B P (by omega) (Rm_w rm hlen) fun g q => ?_
      rw [hr4, ← List.append_assoc Q A W0, w.1, w.2, hR2] at q
      have hl3 : (R0 ++ L).length + ([(tK ts, ((q0 :: F0).length : Int))] ++ W0).length + wtF (q0 :: F0) + (tStep ts).length ≤ 301 := by
        have := rm.2.2
        simp only [List.length_append, List.length_cons, List.length_nil] at this hl2 ⊢
        omega
      refine P_prod lp B G1 I (A := [(tK ts, ((q0 :: F0).length : Int))]) (R0 := R0 ++ L) (Or.inr ⟨_, ho, rfl⟩) hW0 hWl (h := g) q t1 ⟨rm.1, rm.2.1, hl3⟩ (fun e he g2 q2 => E e ?_ g2 q2) (fun r L2 he hnp2 T2 g2 Q2 R2 hQ2 hR3 rm2 q2 => ?_)
      · rw [gLoop_op hop, he]
        rfl
      · have hg := G2 _ _ _ t1 he
        have e3 : gLoop (gProd one) opS (k + 1) ts L = gLoop (gProd one) opS k r (L ++ L2 ++ [(tK ts, 0)]) := by
          rw [gLoop_op hop, he]
          rfl
        rw [e3] at E K
        refine ih r (L ++ L2 ++ [(tK ts, 0)]) [(tK ts, ((q0 :: F0).length : Int))] Q2 R2 g2 (by omega) q2 T2 hnp2 hQ2 (Or.inr ⟨_, ho, rfl⟩) ?_ rm2 E K
        rw [hR3]
        show R0 ++ L ++ L2 ++ [(tK ts, 0)] = _
        simp only [List.append_assoc]
    · refine K ts L (gLoop_stop hop) ⟨hnp, hop⟩ T h (Q ++ A) R hPD hR2 ?_ ?_
      · rw [List.append_assoc]; exact rm
      · rw [List.append_assoc]; exact P
theorem P_sum {m : jx_H} {n : Int} {HG : jx_H → Prop} (lp : LPh HG) (B : BB m n) {F W0 R0 : List Itm} {one : List Tok → GR} (G1 : GL one) (G2 : GL (gProd one)) (I : It m n HG F one) (hW0 : ∀ q ∈ W0, q.2 < (F.length : Int)) (hWl : W0.length + 2 ≤ 2 * F.length) {ts : List Tok} {h : jx_H} (P : PM m h n 1 F W0 R0 ts) (T : TN ts) (rm : Rm F W0 R0 ts) (E : ∀ e, gSum one ts = .inl e → ∀ g, PE m g e.1 e.2 → HG g) (K : ∀ r L2, gSum one ts = .inr (r, L2) → (¬ opP (tK r) = true ∧ ¬ opS (tK r) = true) → TN r → ∀ g P2 R2, PDd F.length P2 → R2 ++ flW P2 = R0 ++ L2 → Rm F (P2 ++ W0) R2 r → PM m g n 2 F (P2 ++ W0) R2 r → HG g) : HG h := by
  refine P_prod lp B G1 I (A := []) (W0 := W0) (R0 := R0) (Or.inl rfl) hW0 hWl (h := h) P T rm (fun e he g2 q2 => E e ?_ g2 q2) (fun r L2 he hnp2 T2 g2 Q2 R2 hQ2 hR3 rm2 q2 => ?_)
  · unfold gSum
    rw [he]
    rfl
  · have hg := G2 _ _ _ T he
    have e3 : gSum one ts = gLoop (gProd one) opS ts.length r L2 := by unfold gSum; rw [he]; rfl
    rw [e3] at E K
    exact P_sumLoop lp B G1 G2 I hW0 hWl ts.length r L2 [] Q2 R2 g2 (by omega) q2 T2 hnp2 hQ2 (Or.inl rfl) (by rw [hR3]; show R0 ++ L2 ++ [] = _; rw [List.append_nil]) rm2 E K
