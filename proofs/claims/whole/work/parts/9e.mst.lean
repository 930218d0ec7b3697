/-! the reference's reader: its state -/
def opnK (k : Int) : Int := if k = 3 ∨ k = 6 ∨ k = 7 ∨ k = 8 ∨ k = 9 then 1 else 0
def opn : List Itm → Int
  | [] => 0
  | q :: r => opnK q.1 + opn r
def wtF : List Itm → Nat
  | [] => 0
  | q :: r => (if q.1 = 4 then 0 else 1) + wtF r
/-- the frames, the top first: sort, and what waits there -/
def Fr (h : jx_H) : List Itm → Prop
  | [] => True
  | q :: r => (h 34 (r.length : Int) = q.1 ∧ ((q.1 = 8 ∨ q.1 = 9) → h 35 ((r.length : Int) + 1) = q.2) ∧ (q.1 = 5 → h 36 ((r.length : Int) + 1) = q.2) ∧ (0 ≤ q.1 ∧ q.1 ≤ 9)) ∧ Fr h r
/-- what waits, the top first: order, and the depth -/
def Wt (h : jx_H) : List Itm → Prop
  | [] => True
  | q :: r => (h 38 (r.length : Int) = q.1 ∧ h 39 (r.length : Int) = q.2 ∧ (0 ≤ q.1 ∧ q.1 ≤ 500) ∧ (0 ≤ q.2 ∧ q.2 ≤ 100)) ∧ Wt h r
def Ou (h : jx_H) (R : List Itm) : Prop := ∀ i : Nat, i < R.length → h 46 (i : Int) = (R.getD i (0, 0)).1 ∧ h 47 (i : Int) = (R.getD i (0, 0)).2
def PF (m h : jx_H) : Prop := (∀ b, b ≠ 1 → b ≠ 34 → b ≠ 35 → b ≠ 36 → b ≠ 38 → b ≠ 39 → b ≠ 46 → b ≠ 47 → h b = m b) ∧ (∀ x, x < 16 → h 1 x = m 1 x) ∧ h 1 31 = m 1 31 ∧ h 1 21 = m 1 21
def PM (m h : jx_H) (n st : Int) (F W R : List Itm) (ts : List Tok) : Prop := PF m h ∧ (h 1 20 = 0 ∧ h 1 30 = st) ∧ (h 1 23 = (F.length : Int) ∧ h 1 22 = opn F ∧ Fr h F) ∧ (h 1 27 = (W.length : Int) ∧ Wt h W) ∧ (h 1 35 = (R.length : Int) ∧ Ou h R) ∧ MTs h (m 16) n ts
/-- what a whole reading leaves alone -/
def PFw (m h : jx_H) : Prop := (∀ b, b ≠ 1 → b ≠ 34 → b ≠ 35 → b ≠ 36 → b ≠ 38 → b ≠ 39 → b ≠ 42 → b ≠ 43 → b ≠ 44 → b ≠ 46 → b ≠ 47 → h b = m b) ∧ ∀ x, x < 16 → h 1 x = m 1 x
def PE (m h : jx_H) (c p : Int) : Prop := PFw m h ∧ h 1 20 = c ∧ h 1 21 = p ∧ 1 ≤ c ∧ c ≤ 5
theorem PF_w {m h : jx_H} (P : PF m h) : PFw m h := ⟨fun b b1 b2 b3 b4 b5 b6 _ _ _ b7 b8 => P.1 b b1 b2 b3 b4 b5 b6 b7 b8, P.2.1⟩
/-- the row that is read -/
def BB (m : jx_H) (n : Int) : Prop := m 1 15 = n ∧ (0 ≤ n ∧ n ≤ 300) ∧ ∀ x, 0 ≤ x → x < n → -128 ≤ m 16 x ∧ m 16 x < 128
theorem PM.pf {m h : jx_H} {n st : Int} {F W R : List Itm} {ts : List Tok} (P : PM m h n st F W R ts) : PF m h := P.1
theorem PM.wr {m h : jx_H} {n st : Int} {F W R : List Itm} {ts : List Tok} (P : PM m h n st F W R ts) : h 1 20 = 0 := P.2.1.1
theorem PM.st {m h : jx_H} {n st : Int} {F W R : List Itm} {ts : List Tok} (P : PM m h n st F W R ts) : h 1 30 = st := P.2.1.2
theorem PM.fl {m h : jx_H} {n st : Int} {F W R : List Itm} {ts : List Tok} (P : PM m h n st F W R ts) : h 1 23 = (F.length : Int) := P.2.2.1.1
theorem PM.op {m h : jx_H} {n st : Int} {F W R : List Itm} {ts : List Tok} (P : PM m h n st F W R ts) : h 1 22 = opn F := P.2.2.1.2.1
theorem PM.fr {m h : jx_H} {n st : Int} {F W R : List Itm} {ts : List Tok} (P : PM m h n st F W R ts) : Fr h F := P.2.2.1.2.2
theorem PM.wl {m h : jx_H} {n st : Int} {F W R : List Itm} {ts : List Tok} (P : PM m h n st F W R ts) : h 1 27 = (W.length : Int) := P.2.2.2.1.1
theorem PM.wt {m h : jx_H} {n st : Int} {F W R : List Itm} {ts : List Tok} (P : PM m h n st F W R ts) : Wt h W := P.2.2.2.1.2
theorem PM.rl {m h : jx_H} {n st : Int} {F W R : List Itm} {ts : List Tok} (P : PM m h n st F W R ts) : h 1 35 = (R.length : Int) := P.2.2.2.2.1.1
theorem PM.ou {m h : jx_H} {n st : Int} {F W R : List Itm} {ts : List Tok} (P : PM m h n st F W R ts) : Ou h R := P.2.2.2.2.1.2
theorem PM.mt {m h : jx_H} {n st : Int} {F W R : List Itm} {ts : List Tok} (P : PM m h n st F W R ts) : MTs h (m 16) n ts := P.2.2.2.2.2
theorem Fr_k {h g : jx_H} : ∀ (F : List Itm), (∀ x : Int, x < F.length → g 34 x = h 34 x) → (∀ x : Int, x ≤ F.length → g 35 x = h 35 x) → (∀ x : Int, x ≤ F.length → g 36 x = h 36 x) → Fr h F → Fr g F
  | [], _, _, _, _ => True.intro
  | q :: r, h1, h2, h3, H => by
    have e : ((q :: r).length : Int) = (r.length : Int) + 1 := by simp
    rw [e] at h1 h2 h3
    exact ⟨⟨by rw [h1 _ (by omega)]; exact H.1.1, fun z => by rw [h2 _ (Int.le_refl _)]; exact H.1.2.1 z, fun z => by rw [h3 _ (Int.le_refl _)]; exact H.1.2.2.1 z, H.1.2.2.2⟩, Fr_k r (fun x hx => h1 x (by omega)) (fun x hx => h2 x (by omega)) (fun x hx => h3 x (by omega)) H.2⟩
theorem Wt_k {h g : jx_H} : ∀ (W : List Itm), (∀ x : Int, x < W.length → g 38 x = h 38 x ∧ g 39 x = h 39 x) → Wt h W → Wt g W
  | [], _, _ => True.intro
  | q :: r, h1, H => by
    have e : ((q :: r).length : Int) = (r.length : Int) + 1 := by simp
    rw [e] at h1
    have h2 := h1 (r.length : Int) (by omega)
    exact ⟨⟨by rw [h2.1]; exact H.1.1, by rw [h2.2]; exact H.1.2.1, H.1.2.2⟩, Wt_k r (fun x hx => h1 x (by omega)) H.2⟩
theorem Ou_k {h g : jx_H} {R : List Itm} (h1 : ∀ x : Int, x < R.length → g 46 x = h 46 x ∧ g 47 x = h 47 x) (H : Ou h R) : Ou g R := fun i hi => by
  have q := h1 (i : Int) (by omega)
  rw [q.1, q.2]
  exact H i hi
theorem Ou_app {h : jx_H} {R : List Itm} {q : Itm} (H : Ou h R) (h1 : h 46 (R.length : Int) = q.1) (h2 : h 47 (R.length : Int) = q.2) : Ou h (R ++ [q]) := fun i hi => by
  simp only [List.length_append, List.length_cons, List.length_nil] at hi
  by_cases e : i < R.length
  · have z : (R ++ [q]).getD i (0, 0) = R.getD i (0, 0) := by rw [List.getD_eq_getElem?_getD, List.getD_eq_getElem?_getD, List.getElem?_append_left e]
    rw [z]
    exact H i e
  · have e2 : i = R.length := by omega
    subst e2
    have z : (R ++ [q]).getD R.length (0, 0) = q := by rw [List.getD_eq_getElem?_getD, List.getElem?_append_right (Nat.le_refl _), Nat.sub_self]; rfl
    rw [z]
    exact ⟨h1, h2⟩
theorem MTs_k {h g : jx_H} {f : Int → Int} {n : Int} {ts : List Tok} (e : ∀ x, 16 ≤ x → x ≤ 19 → g 1 x = h 1 x) (H : MTs h f n ts) : MTs g f n ts := by
  obtain ⟨t, r, h1, h2, h3, h4⟩ := H
  refine ⟨t, r, h1, ?_, h3, fun q => ?_⟩
  · unfold MTk at *
    rw [e 17 (by decide) (by decide), e 18 (by decide) (by decide), e 19 (by decide) (by decide)]
    exact h2
  · rw [e 16 (by decide) (by decide)]
    exact h4 q
theorem MTs_hd {g : jx_H} {f : Int → Int} {n : Int} {ts : List Tok} (H : MTs g f n ts) : (kOk (tK ts) ∧ g 1 17 = tB ts ∧ g 1 18 = mS (tK ts)) ∧ ((mS (tK ts) = 1 ∨ mS (tK ts) = 3) → g 1 19 = mT (tK ts)) ∧ (tK ts = 130 → (0 ≤ g 1 19 ∧ g 1 19 ≤ 2000000) ∧ min (g 1 19) 10000 = tN ts) := by
  obtain ⟨t, r, rfl, h2, -, -⟩ := H
  exact h2
theorem tks_ne {f : Int → Int} {n : Int} {k : Nat} {i : Int} (h : n - i < (k : Int)) (hi : i ≤ n) : ∃ t r, tks f n k i = t :: r := by
  obtain ⟨k, rfl⟩ : ∃ k2, k = k2 + 1 := ⟨k - 1, by omega⟩
  unfold tks
  by_cases q : n ≤ wh isBl f n i
  · rw [if_pos q]; exact ⟨_, _, rfl⟩
  · rw [if_neg q]; exact ⟨_, _, rfl⟩
/-- a place, put -/
theorem PF_hu {m h : jx_H} {k i v : Int} (hs : (k = 1 ∧ 16 ≤ i ∧ i ≠ 31 ∧ i ≠ 21) ∨ k = 34 ∨ k = 35 ∨ k = 36 ∨ k = 38 ∨ k = 39 ∨ k = 46 ∨ k = 47) (P : PF m h) : PF m (hu h k i v) := by
  refine ⟨fun b b1 b2 b3 b4 b5 b6 b7 b8 => ?_, fun x hx => ?_, ?_, ?_⟩
  · rw [hu_row (by omega)]; exact P.1 b b1 b2 b3 b4 b5 b6 b7 b8
  · by_cases e : k = 1
    · subst e; rw [hu_ni (by omega)]; exact P.2.1 x hx
    · rw [hu_row (by omega)]; exact P.2.1 x hx
  · by_cases e : k = 1
    · subst e; rw [hu_ni (by omega)]; exact P.2.2.1
    · rw [hu_row (by omega)]; exact P.2.2.1
  · by_cases e : k = 1
    · subst e; rw [hu_ni (by omega)]; exact P.2.2.2
    · rw [hu_row (by omega)]; exact P.2.2.2
theorem PFw_hu {m h : jx_H} {i v : Int} (hs : 16 ≤ i) (P : PFw m h) : PFw m (hu h 1 i v) := ⟨fun b b1 b2 b3 b4 b5 b6 b7 b8 b9 b10 b11 => by rw [hu_row b1]; exact P.1 b b1 b2 b3 b4 b5 b6 b7 b8 b9 b10 b11, fun x hx => by rw [hu_ni (by omega)]; exact P.2 x hx⟩
theorem PF_hr {m h : jx_H} {k i v : Int} (hs : k = 34 ∨ k = 35 ∨ k = 36 ∨ k = 38 ∨ k = 39 ∨ k = 46 ∨ k = 47) (P : PF m h) : PF m (hu h k i v) := PF_hu (Or.inr hs) P
theorem M_nextP {m h : jx_H} {n st : Int} {F W R : List Itm} {ts : List Tok} {K : Int → jx_H → Prop} (B : BB m n) (P : PM m h n st F W R ts) (h0 : ¬ tK ts = 0) (hK : ∀ g, PM m g n st F W R (tStep ts) → K 0 g) : jx_Cal wM 4 hX12_next [vr 1] h K := by
  obtain ⟨t, r, e1, e2, e3, e4⟩ := P.mt
  subst e1
  obtain ⟨k, i, e5, e6, e7, e8⟩ := e4 h0
  have er : h 16 = m 16 := P.pf.1 16 (by decide) (by decide) (by decide) (by decide) (by decide) (by decide) (by decide) (by decide)
  refine M_next (k := k) (n := n) (i := i) (by rw [P.pf.2.1 15 (by decide)]; exact B.1) B.2.1 (by rw [er]; exact B.2.2) e6 e7 e8 fun g q1 q2 => hK g ?_
  rw [er] at q2
  have es : tStep (t :: r) = tks (m 16) n k i := by
    obtain ⟨t2, r2, z⟩ := tks_ne (f := m 16) (n := n) (k := k) (i := i) (by omega) (by omega)
    rw [e5, z]
    rfl
  rw [es]
  have c : ∀ b, b ≠ 1 → g b = h b := q1.1
  refine ⟨⟨fun b b1 b2 b3 b4 b5 b6 b7 b8 => by rw [c b b1]; exact P.pf.1 b b1 b2 b3 b4 b5 b6 b7 b8, fun x hx => by rw [q1.2 x (by omega) (by omega) (by omega) (by omega)]; exact P.pf.2.1 x hx, by rw [q1.2 31 (by decide) (by decide) (by decide) (by decide)]; exact P.pf.2.2.1, by rw [q1.2 21 (by decide) (by decide) (by decide) (by decide)]; exact P.pf.2.2.2⟩, ⟨by rw [q1.2 20 (by decide) (by decide) (by decide) (by decide)]; exact P.wr, by rw [q1.2 30 (by decide) (by decide) (by decide) (by decide)]; exact P.st⟩, ⟨by rw [q1.2 23 (by decide) (by decide) (by decide) (by decide)]; exact P.fl, by rw [q1.2 22 (by decide) (by decide) (by decide) (by decide)]; exact P.op, Fr_k F (fun x _ => by rw [c 34 (by decide)]) (fun x _ => by rw [c 35 (by decide)]) (fun x _ => by rw [c 36 (by decide)]) P.fr⟩, ⟨by rw [q1.2 27 (by decide) (by decide) (by decide) (by decide)]; exact P.wl, Wt_k W (fun x _ => ⟨by rw [c 38 (by decide)], by rw [c 39 (by decide)]⟩) P.wt⟩, ⟨by rw [q1.2 35 (by decide) (by decide) (by decide) (by decide)]; exact P.rl, Ou_k (fun x _ => ⟨by rw [c 46 (by decide)], by rw [c 47 (by decide)]⟩) P.ou⟩, q2⟩
theorem PM_err {m h : jx_H} {n st : Int} {F W R : List Itm} {ts : List Tok} (P : PM m h n st F W R ts) (c : Int) (hcc : 1 ≤ c ∧ c ≤ 5 := by decide) : PE m (hu (hu h 1 20 c) 1 21 (h 1 17)) c (tB ts) := ⟨PFw_hu (by decide) (PFw_hu (by decide) (PF_w P.pf)), by rw [hu_ni (by decide), hu_eq], by rw [hu_eq]; exact (MTs_hd P.mt).1.2.1, hcc⟩
theorem PM_st {m h : jx_H} {n st : Int} {F W R : List Itm} {ts : List Tok} (P : PM m h n st F W R ts) (s2 : Int) : PM m (hu h 1 30 s2) n s2 F W R ts := ⟨PF_hu (Or.inl (by decide)) P.pf, ⟨by rw [hu_ni (by decide)]; exact P.wr, hu_eq⟩, ⟨by rw [hu_ni (by decide)]; exact P.fl, by rw [hu_ni (by decide)]; exact P.op, Fr_k F (fun x _ => by rw [hu_row (by decide)]) (fun x _ => by rw [hu_row (by decide)]) (fun x _ => by rw [hu_row (by decide)]) P.fr⟩, ⟨by rw [hu_ni (by decide)]; exact P.wl, Wt_k W (fun x _ => ⟨by rw [hu_row (by decide)], by rw [hu_row (by decide)]⟩) P.wt⟩, ⟨by rw [hu_ni (by decide)]; exact P.rl, Ou_k (fun x _ => ⟨by rw [hu_row (by decide)], by rw [hu_row (by decide)]⟩) P.ou⟩, MTs_k (fun x x1 x2 => by rw [hu_ni (by omega)]) P.mt⟩
theorem PM_emit {m h : jx_H} {n st : Int} {F W R : List Itm} {ts : List Tok} (P : PM m h n st F W R ts) (o v : Int) : PM m (hu (hu (hu h 46 (R.length : Int) o) 47 (R.length : Int) v) 1 35 ((R.length : Int) + 1)) n st F W (R ++ [(o, v)]) ts := ⟨PF_hu (Or.inl (by decide)) (PF_hr (by decide) (PF_hr (by decide) P.pf)), ⟨by rw [hu_ni (by decide), hu_row (by decide), hu_row (by decide)]; exact P.wr, by rw [hu_ni (by decide), hu_row (by decide), hu_row (by decide)]; exact P.st⟩, ⟨by rw [hu_ni (by decide), hu_row (by decide), hu_row (by decide)]; exact P.fl, by rw [hu_ni (by decide), hu_row (by decide), hu_row (by decide)]; exact P.op, Fr_k F (fun x _ => by rw [hu_row (by decide), hu_row (by decide), hu_row (by decide)]) (fun x _ => by rw [hu_row (by decide), hu_row (by decide), hu_row (by decide)]) (fun x _ => by rw [hu_row (by decide), hu_row (by decide), hu_row (by decide)]) P.fr⟩, ⟨by rw [hu_ni (by decide), hu_row (by decide), hu_row (by decide)]; exact P.wl, Wt_k W (fun x _ => ⟨by rw [hu_row (by decide), hu_row (by decide), hu_row (by decide)], by rw [hu_row (by decide), hu_row (by decide), hu_row (by decide)]⟩) P.wt⟩, ⟨by rw [hu_eq]; simp only [List.length_append, List.length_cons, List.length_nil]; omega, Ou_app (Ou_k (fun x hx => ⟨by rw [hu_row (by decide), hu_row (by decide), hu_ni (by omega)], by rw [hu_row (by decide), hu_ni (by omega), hu_row (by decide)]⟩) P.ou) (by rw [hu_row (by decide), hu_row (by decide), hu_eq]) (by rw [hu_row (by decide), hu_eq])⟩, MTs_k (fun x x1 x2 => by rw [hu_ni (by omega), hu_row (by decide), hu_row (by decide)]) P.mt⟩
/-- a frame more, and what counts as open -/
theorem PM_push {m h : jx_H} {n st : Int} {F W R : List Itm} {ts : List Tok} (P : PM m h n st F W R ts) (f : Int) (hf : 0 ≤ f ∧ f ≤ 9) (h5 : ¬ f = 5) (h0 : opnK f = 0) : PM m (hu (hu h 34 (F.length : Int) f) 1 23 ((F.length : Int) + 1)) n st ((f, h 35 ((F.length : Int) + 1)) :: F) W R ts := ⟨PF_hu (Or.inl (by decide)) (PF_hr (by decide) P.pf), ⟨by rw [hu_ni (by decide), hu_row (by decide)]; exact P.wr, by rw [hu_ni (by decide), hu_row (by decide)]; exact P.st⟩, ⟨by rw [hu_eq]; simp only [List.length_cons]; omega, by rw [hu_ni (by decide), hu_row (by decide)]; show _ = opnK f + opn F; rw [h0, Int.zero_add]; exact P.op, ⟨⟨by rw [hu_row (by decide), hu_eq], fun _ => by rw [hu_row (by decide), hu_row (by decide)], fun q => absurd q h5, hf⟩, Fr_k F (fun x hx => by rw [hu_row (by decide), hu_ni (by omega)]) (fun x _ => by rw [hu_row (by decide), hu_row (by decide)]) (fun x _ => by rw [hu_row (by decide), hu_row (by decide)]) P.fr⟩⟩, ⟨by rw [hu_ni (by decide), hu_row (by decide)]; exact P.wl, Wt_k W (fun x _ => ⟨by rw [hu_row (by decide), hu_row (by decide)], by rw [hu_row (by decide), hu_row (by decide)]⟩) P.wt⟩, ⟨by rw [hu_ni (by decide), hu_row (by decide)]; exact P.rl, Ou_k (fun x _ => ⟨by rw [hu_row (by decide), hu_row (by decide)], by rw [hu_row (by decide), hu_row (by decide)]⟩) P.ou⟩, MTs_k (fun x x1 x2 => by rw [hu_ni (by omega), hu_row (by decide)]) P.mt⟩
theorem PM_pushO {m h : jx_H} {n st : Int} {F W R : List Itm} {ts : List Tok} (P : PM m h n st F W R ts) (f : Int) (hf : 0 ≤ f ∧ f ≤ 9) (h5 : ¬ f = 5) (h0 : opnK f = 1) : PM m (hu (hu (hu h 1 22 (opn F + 1)) 34 (F.length : Int) f) 1 23 ((F.length : Int) + 1)) n st ((f, h 35 ((F.length : Int) + 1)) :: F) W R ts := ⟨PF_hu (Or.inl (by decide)) (PF_hr (by decide) (PF_hu (Or.inl (by decide)) P.pf)), ⟨by rw [hu_ni (by decide), hu_row (by decide), hu_ni (by decide)]; exact P.wr, by rw [hu_ni (by decide), hu_row (by decide), hu_ni (by decide)]; exact P.st⟩, ⟨by rw [hu_eq]; simp only [List.length_cons]; omega, by rw [hu_ni (by decide), hu_row (by decide), hu_eq]; show _ = opnK f + opn F; rw [h0]; omega, ⟨⟨by rw [hu_row (by decide), hu_eq], fun _ => by rw [hu_row (by decide), hu_row (by decide), hu_row (by decide)], fun q => absurd q h5, hf⟩, Fr_k F (fun x hx => by rw [hu_row (by decide), hu_ni (by omega), hu_row (by decide)]) (fun x _ => by rw [hu_row (by decide), hu_row (by decide), hu_row (by decide)]) (fun x _ => by rw [hu_row (by decide), hu_row (by decide), hu_row (by decide)]) P.fr⟩⟩, ⟨by rw [hu_ni (by decide), hu_row (by decide), hu_ni (by decide)]; exact P.wl, Wt_k W (fun x _ => ⟨by rw [hu_row (by decide), hu_row (by decide), hu_row (by decide)], by rw [hu_row (by decide), hu_row (by decide), hu_row (by decide)]⟩) P.wt⟩, ⟨by rw [hu_ni (by decide), hu_row (by decide), hu_ni (by decide)]; exact P.rl, Ou_k (fun x _ => ⟨by rw [hu_row (by decide), hu_row (by decide), hu_row (by decide)], by rw [hu_row (by decide), hu_row (by decide), hu_row (by decide)]⟩) P.ou⟩, MTs_k (fun x x1 x2 => by rw [hu_ni (by omega), hu_row (by decide), hu_ni (by omega)]) P.mt⟩
/-- a frame less -/
theorem PM_pop {m h : jx_H} {n st : Int} {q : Itm} {F W R : List Itm} {ts : List Tok} (P : PM m h n st (q :: F) W R ts) (h0 : opnK q.1 = 0) : PM m (hu h 1 23 (F.length : Int)) n st F W R ts := ⟨PF_hu (Or.inl (by decide)) P.pf, ⟨by rw [hu_ni (by decide)]; exact P.wr, by rw [hu_ni (by decide)]; exact P.st⟩, ⟨hu_eq, by rw [hu_ni (by decide), P.op]; show opnK q.1 + opn F = _; rw [h0, Int.zero_add], Fr_k F (fun x _ => by rw [hu_row (by decide)]) (fun x _ => by rw [hu_row (by decide)]) (fun x _ => by rw [hu_row (by decide)]) P.fr.2⟩, ⟨by rw [hu_ni (by decide)]; exact P.wl, Wt_k W (fun x _ => ⟨by rw [hu_row (by decide)], by rw [hu_row (by decide)]⟩) P.wt⟩, ⟨by rw [hu_ni (by decide)]; exact P.rl, Ou_k (fun x _ => ⟨by rw [hu_row (by decide)], by rw [hu_row (by decide)]⟩) P.ou⟩, MTs_k (fun x x1 x2 => by rw [hu_ni (by omega)]) P.mt⟩
theorem PM_popO {m h : jx_H} {n st : Int} {q : Itm} {F W R : List Itm} {ts : List Tok} (P : PM m h n st (q :: F) W R ts) (h0 : opnK q.1 = 1) : PM m (hu (hu h 1 23 (F.length : Int)) 1 22 (opn F)) n st F W R ts := ⟨PF_hu (Or.inl (by decide)) (PF_hu (Or.inl (by decide)) P.pf), ⟨by rw [hu_ni (by decide), hu_ni (by decide)]; exact P.wr, by rw [hu_ni (by decide), hu_ni (by decide)]; exact P.st⟩, ⟨by rw [hu_ni (by decide), hu_eq], hu_eq, Fr_k F (fun x _ => by rw [hu_row (by decide), hu_row (by decide)]) (fun x _ => by rw [hu_row (by decide), hu_row (by decide)]) (fun x _ => by rw [hu_row (by decide), hu_row (by decide)]) P.fr.2⟩, ⟨by rw [hu_ni (by decide), hu_ni (by decide)]; exact P.wl, Wt_k W (fun x _ => ⟨by rw [hu_row (by decide), hu_row (by decide)], by rw [hu_row (by decide), hu_row (by decide)]⟩) P.wt⟩, ⟨by rw [hu_ni (by decide), hu_ni (by decide)]; exact P.rl, Ou_k (fun x _ => ⟨by rw [hu_row (by decide), hu_row (by decide)], by rw [hu_row (by decide), hu_row (by decide)]⟩) P.ou⟩, MTs_k (fun x x1 x2 => by rw [hu_ni (by omega), hu_ni (by omega)]) P.mt⟩
/-- one that waits more; less -/
theorem PM_wait {m h : jx_H} {n st : Int} {F W R : List Itm} {ts : List Tok} (P : PM m h n st F W R ts) (o d : Int) (ho : 0 ≤ o ∧ o ≤ 500) (hd : 0 ≤ d ∧ d ≤ 100) : PM m (hu (hu (hu h 38 (W.length : Int) o) 39 (W.length : Int) d) 1 27 ((W.length : Int) + 1)) n st F ((o, d) :: W) R ts := ⟨PF_hu (Or.inl (by decide)) (PF_hr (by decide) (PF_hr (by decide) P.pf)), ⟨by rw [hu_ni (by decide), hu_row (by decide), hu_row (by decide)]; exact P.wr, by rw [hu_ni (by decide), hu_row (by decide), hu_row (by decide)]; exact P.st⟩, ⟨by rw [hu_ni (by decide), hu_row (by decide), hu_row (by decide)]; exact P.fl, by rw [hu_ni (by decide), hu_row (by decide), hu_row (by decide)]; exact P.op, Fr_k F (fun x _ => by rw [hu_row (by decide), hu_row (by decide), hu_row (by decide)]) (fun x _ => by rw [hu_row (by decide), hu_row (by decide), hu_row (by decide)]) (fun x _ => by rw [hu_row (by decide), hu_row (by decide), hu_row (by decide)]) P.fr⟩, ⟨by rw [hu_eq]; simp only [List.length_cons]; omega, ⟨⟨by rw [hu_row (by decide), hu_row (by decide), hu_eq], by rw [hu_row (by decide), hu_eq], ho, hd⟩, Wt_k W (fun x hx => ⟨by rw [hu_row (by decide), hu_row (by decide), hu_ni (by omega)], by rw [hu_row (by decide), hu_ni (by omega), hu_row (by decide)]⟩) P.wt⟩⟩, ⟨by rw [hu_ni (by decide), hu_row (by decide), hu_row (by decide)]; exact P.rl, Ou_k (fun x _ => ⟨by rw [hu_row (by decide), hu_row (by decide), hu_row (by decide)], by rw [hu_row (by decide), hu_row (by decide), hu_row (by decide)]⟩) P.ou⟩, MTs_k (fun x x1 x2 => by rw [hu_ni (by omega), hu_row (by decide), hu_row (by decide)]) P.mt⟩
theorem PM_unwait {m h : jx_H} {n st : Int} {q : Itm} {F W R : List Itm} {ts : List Tok} (P : PM m h n st F (q :: W) R ts) : PM m (hu h 1 27 (W.length : Int)) n st F W R ts := ⟨PF_hu (Or.inl (by decide)) P.pf, ⟨by rw [hu_ni (by decide)]; exact P.wr, by rw [hu_ni (by decide)]; exact P.st⟩, ⟨by rw [hu_ni (by decide)]; exact P.fl, by rw [hu_ni (by decide)]; exact P.op, Fr_k F (fun x _ => by rw [hu_row (by decide)]) (fun x _ => by rw [hu_row (by decide)]) (fun x _ => by rw [hu_row (by decide)]) P.fr⟩, ⟨hu_eq, Wt_k W (fun x _ => ⟨by rw [hu_row (by decide)], by rw [hu_row (by decide)]⟩) P.wt.2⟩, ⟨by rw [hu_ni (by decide)]; exact P.rl, Ou_k (fun x _ => ⟨by rw [hu_row (by decide)], by rw [hu_row (by decide)]⟩) P.ou⟩, MTs_k (fun x x1 x2 => by rw [hu_ni (by omega)]) P.mt⟩
/-- the top of another sort, with what waits there -/
theorem PM_top {m h : jx_H} {n st : Int} {q : Itm} {F W R : List Itm} {ts : List Tok} (P : PM m h n st (q :: F) W R ts) (f : Int) (hf : 0 ≤ f ∧ f ≤ 9) (h0 : opnK q.1 = opnK f) (h5 : ¬ f = 5) (h8 : (q.1 = 8 ∨ q.1 = 9) ∨ ¬ (f = 8 ∨ f = 9)) : PM m (hu h 34 (F.length : Int) f) n st ((f, q.2) :: F) W R ts := ⟨PF_hr (by decide) P.pf, ⟨by rw [hu_row (by decide)]; exact P.wr, by rw [hu_row (by decide)]; exact P.st⟩, ⟨by rw [hu_row (by decide)]; exact P.fl, by rw [hu_row (by decide), P.op]; show opnK q.1 + opn F = opnK f + opn F; rw [h0], ⟨⟨hu_eq, fun z => by rw [hu_row (by decide)]; exact P.fr.1.2.1 (h8.resolve_right fun y => y z), fun z => absurd z h5, hf⟩, Fr_k F (fun x hx => by rw [hu_ni (by omega)]) (fun x _ => by rw [hu_row (by decide)]) (fun x _ => by rw [hu_row (by decide)]) P.fr.2⟩⟩, ⟨by rw [hu_row (by decide)]; exact P.wl, Wt_k W (fun x _ => ⟨by rw [hu_row (by decide)], by rw [hu_row (by decide)]⟩) P.wt⟩, ⟨by rw [hu_row (by decide)]; exact P.rl, Ou_k (fun x _ => ⟨by rw [hu_row (by decide)], by rw [hu_row (by decide)]⟩) P.ou⟩, MTs_k (fun x x1 x2 => by rw [hu_row (by decide)]) P.mt⟩
theorem PM_right {m h : jx_H} {n st : Int} {q : Itm} {F W R : List Itm} {ts : List Tok} (P : PM m h n st (q :: F) W R ts) (c : Int) (h0 : opnK q.1 = 0) : PM m (hu (hu h 36 ((F.length : Int) + 1) c) 34 (F.length : Int) 5) n st ((5, c) :: F) W R ts := ⟨PF_hr (by decide) (PF_hr (by decide) P.pf), ⟨by rw [hu_row (by decide), hu_row (by decide)]; exact P.wr, by rw [hu_row (by decide), hu_row (by decide)]; exact P.st⟩, ⟨by rw [hu_row (by decide), hu_row (by decide)]; exact P.fl, by rw [hu_row (by decide), hu_row (by decide), P.op]; show opnK q.1 + opn F = opnK 5 + opn F; rw [h0]; rfl, ⟨⟨hu_eq, fun z => by omega, fun _ => by rw [hu_row (by decide), hu_eq], ⟨(by show (0 : Int) ≤ 5; decide), (by show (5 : Int) ≤ 9; decide)⟩⟩, Fr_k F (fun x hx => by rw [hu_ni (by omega), hu_row (by decide)]) (fun x _ => by rw [hu_row (by decide), hu_row (by decide)]) (fun x hx => by rw [hu_row (by decide), hu_ni (by omega)]) P.fr.2⟩⟩, ⟨by rw [hu_row (by decide), hu_row (by decide)]; exact P.wl, Wt_k W (fun x _ => ⟨by rw [hu_row (by decide), hu_row (by decide)], by rw [hu_row (by decide), hu_row (by decide)]⟩) P.wt⟩, ⟨by rw [hu_row (by decide), hu_row (by decide)]; exact P.rl, Ou_k (fun x _ => ⟨by rw [hu_row (by decide), hu_row (by decide)], by rw [hu_row (by decide), hu_row (by decide)]⟩) P.ou⟩, MTs_k (fun x x1 x2 => by rw [hu_row (by decide), hu_row (by decide)]) P.mt⟩
theorem PM_which {m h : jx_H} {n st : Int} {q : Itm} {F W R : List Itm} {ts : List Tok} (P : PM m h n st (q :: F) W R ts) (c : Int) (h5 : ¬ q.1 = 5) : PM m (hu h 35 ((F.length : Int) + 1) c) n st ((q.1, c) :: F) W R ts := ⟨PF_hr (by decide) P.pf, ⟨by rw [hu_row (by decide)]; exact P.wr, by rw [hu_row (by decide)]; exact P.st⟩, ⟨by rw [hu_row (by decide)]; exact P.fl, by rw [hu_row (by decide)]; exact P.op, ⟨⟨by rw [hu_row (by decide)]; exact P.fr.1.1, fun _ => hu_eq, fun z => absurd z h5, P.fr.1.2.2.2⟩, Fr_k F (fun x hx => by rw [hu_row (by decide)]) (fun x hx => by rw [hu_ni (by omega)]) (fun x _ => by rw [hu_row (by decide)]) P.fr.2⟩⟩, ⟨by rw [hu_row (by decide)]; exact P.wl, Wt_k W (fun x _ => ⟨by rw [hu_row (by decide)], by rw [hu_row (by decide)]⟩) P.wt⟩, ⟨by rw [hu_row (by decide)]; exact P.rl, Ou_k (fun x _ => ⟨by rw [hu_row (by decide)], by rw [hu_row (by decide)]⟩) P.ou⟩, MTs_k (fun x x1 x2 => by rw [hu_row (by decide)]) P.mt⟩
