/-! what holds between two calls, piece by piece -/
def BY (m : jx_H) : Prop := ∀ x, 0 ≤ x → x < 300 → -128 ≤ m 16 x ∧ m 16 x < 128
def BI (a : Int → Int) : Prop := RA a ∧ PTn a 0 ∧ RJ a ∧ HZ a ∧ JB a
def RX (m : jx_H) (B : Int) : Prop := RI m B ∧ (HZ (m 10) ∧ HZ (m 11)) ∧ (JB (m 10) ∧ JB (m 11)) ∧ TY m ∧ BY m
/-- alike but for what is written over at every use -/
def Al (m m2 : jx_H) : Prop := ∀ a, a < 48 → m2 a = m a
theorem rx_mk {m : jx_H} {B : Int} (b0 : BI (m 10)) (b1 : BI (m 11)) (tx : TX m) (ty : TY m) (rt : RT m) (yb : BY m) (cc : m 11 0 ≤ m 10 0 ∧ m 11 3 ≤ m 10 3 ∧ m 11 4 ≤ m 10 4 ∧ m 11 5 ≤ m 10 5) (f : FUb m B) (f3 : -B ≤ m 1 3 ∧ m 1 3 ≤ B) : RX m B := ⟨⟨b0.1, b1.1, tx, ⟨b0.2.1, b1.2.1⟩, ⟨b0.2.2.1, b1.2.2.1⟩, rt, cc, f, f3⟩, ⟨b0.2.2.2.1, b1.2.2.2.1⟩, ⟨b0.2.2.2.2, b1.2.2.2.2⟩, ty, yb⟩
theorem RX.b0 {m : jx_H} {B : Int} (X : RX m B) : BI (m 10) := ⟨X.1.1, X.1.2.2.2.1.1, X.1.2.2.2.2.1.1, X.2.1.1, X.2.2.1.1⟩
theorem RX.b1 {m : jx_H} {B : Int} (X : RX m B) : BI (m 11) := ⟨X.1.2.1, X.1.2.2.2.1.2, X.1.2.2.2.2.1.2, X.2.1.2, X.2.2.1.2⟩
theorem RX.tx {m : jx_H} {B : Int} (X : RX m B) : TX m := X.1.2.2.1
theorem RX.ty {m : jx_H} {B : Int} (X : RX m B) : TY m := X.2.2.2.1
theorem RX.rt {m : jx_H} {B : Int} (X : RX m B) : RT m := X.1.2.2.2.2.2.1
theorem RX.yb {m : jx_H} {B : Int} (X : RX m B) : BY m := X.2.2.2.2
theorem RX.cc {m : jx_H} {B : Int} (X : RX m B) : m 11 0 ≤ m 10 0 ∧ m 11 3 ≤ m 10 3 ∧ m 11 4 ≤ m 10 4 ∧ m 11 5 ≤ m 10 5 := X.1.2.2.2.2.2.2.1
theorem RX.fu {m : jx_H} {B : Int} (X : RX m B) : FUb m B := X.1.2.2.2.2.2.2.2.1
theorem RX.f3 {m : jx_H} {B : Int} (X : RX m B) : -B ≤ m 1 3 ∧ m 1 3 ≤ B := X.1.2.2.2.2.2.2.2.2
theorem TX_le {m m2 : jx_H} (e4 : m2 10 4 ≤ m 10 4) (e20 : m2 20 = m 20) (e21 : m2 21 = m 21) (e22 : m2 22 = m 22) (e23 : m2 23 = m 23) (e24 : m2 24 = m 24) (X : TX m) : TX m2 := by
  intro t s h0 h1 h2 h3
  have z := X t s h0 (by omega) h2 h3
  unfold TXc Clause at z ⊢
  rw [e20, e21, e22, e23, e24]
  exact z
theorem TY_le {m m2 : jx_H} (e4 : m2 10 4 ≤ m 10 4) (e20 : m2 20 = m 20) (e22 : m2 22 = m 22) (e23 : m2 23 = m 23) (e24 : m2 24 = m 24) (Y : TY m) : TY m2 := by
  intro t s h0 h1 h2 h3
  rw [e20, e22, e23, e24]
  exact Y t s h0 (by omega) h2 h3
theorem RT_eq {m m2 : jx_H} (e7 : m2 1 7 = m 1 7) (e5 : m2 1 5 = m 1 5) (e14 : m2 14 = m 14) (X : RT m) : RT m2 := by
  unfold RT at X ⊢
  rw [e7, e5, e14]
  exact X
theorem BY_eq {m m2 : jx_H} (e : m2 16 = m 16) (X : BY m) : BY m2 := by
  unfold BY at X ⊢
  rw [e]
  exact X
theorem FUb_eq {m m2 : jx_H} {B B2 : Int} (e : m2 1 2 = m 1 2) (hB : B ≤ B2) (X : FUb m B) : FUb m2 B2 := by
  unfold FUb at X ⊢
  rw [e]
  omega
theorem RX_al {m m2 : jx_H} {B : Int} (e : Al m m2) (X : RX m B) : RX m2 B := by
  have e1 := e 1 (by decide)
  have e10 := e 10 (by decide)
  have e11 := e 11 (by decide)
  refine rx_mk (by rw [e10]; exact X.b0) (by rw [e11]; exact X.b1) (TX_le (by rw [e10]; exact Int.le_refl _) (e 20 (by decide)) (e 21 (by decide)) (e 22 (by decide)) (e 23 (by decide)) (e 24 (by decide)) X.tx) (TY_le (by rw [e10]; exact Int.le_refl _) (e 20 (by decide)) (e 22 (by decide)) (e 23 (by decide)) (e 24 (by decide)) X.ty) (RT_eq (by rw [e1]) (by rw [e1]) (e 14 (by decide)) X.rt) (BY_eq (e 16 (by decide)) X.yb) ?_ (FUb_eq (by rw [e1]) (Int.le_refl _) X.fu) ?_
  · rw [e10, e11]; exact X.cc
  · rw [e1]; exact X.f3
theorem Sim_al {m m2 h : jx_H} (e : Al m m2) (S : Sim m h) : Sim m2 h := by
  obtain ⟨s1, s2, s3, s4, s5, s6, s7, s8, s9, s10, s11⟩ := S
  have e1 := e 1 (by decide)
  have e10 := e 10 (by decide)
  have e11 := e 11 (by decide)
  refine ⟨by rw [e10, e1]; exact s1, by rw [e11, e1]; exact s2, by rw [e10]; exact s3, by rw [e11]; exact s4, by rw [e10]; exact s5, by rw [e11]; exact s6, by rw [e10]; exact s7, by rw [e11]; exact s8, ?_, s10, ?_⟩
  · intro t s t0 t1 u0 u1
    rw [e10] at t1
    have z := s9 t s t0 t1 u0 u1
    unfold STc at z ⊢
    rw [e 20 (by decide), e 21 (by decide), e 22 (by decide), e 23 (by decide), e 24 (by decide)]
    exact z
  · unfold SE at s11 ⊢
    rw [e1, e 14 (by decide), e 16 (by decide)]
    exact s11
theorem fr_tr {a b : Int → Int} (e : ∀ x, 50 ≤ x → x < 74 → b x = a x) (h : RAtr a) : RAtr b := fun t t0 t1 => by
  rw [e (50 + 3 * t) (by omega) (by omega), e (50 + 3 * t + 1) (by omega) (by omega), e (50 + 3 * t + 2) (by omega) (by omega)]
  exact h t t0 t1
theorem fr_li {a b : Int → Int} (e : ∀ x, 80 ≤ x → x < 88 → b x = a x) (h : RAli a) : RAli b := fun t t0 t1 => by
  rw [e (80 + t) (by omega) (by omega)]
  exact h t t0 t1
theorem fr_ha {a b : Int → Int} (e : ∀ x, 100 ≤ x → x < 460 → b x = a x) (n : b 2 ≤ a 2) (hn : a 2 ≤ 60) (c : a 1 ≤ b 1) (h : RAha a) : RAha b := fun i i0 i1 => by
  rw [e (100 + 6 * i) (by omega) (by omega), e (100 + 6 * i + 1) (by omega) (by omega), e (100 + 6 * i + 2) (by omega) (by omega), e (100 + 6 * i + 3) (by omega) (by omega)]
  have z := h i i0 (by omega)
  exact ⟨z.1, z.2.1, z.2.2.1, z.2.2.2.1, by omega⟩
theorem fr_co {a b : Int → Int} (e : ∀ x, 500 ≤ x → x < 716 → b x = a x) (n : b 3 ≤ a 3) (hn : a 3 ≤ 24) (h : RAco a) : RAco b := fun i i0 i1 => by
  rw [e (500 + 9 * i) (by omega) (by omega), e (500 + 9 * i + 1) (by omega) (by omega), e (500 + 9 * i + 2) (by omega) (by omega), e (500 + 9 * i + 3) (by omega) (by omega), e (500 + 9 * i + 4) (by omega) (by omega), e (500 + 9 * i + 5) (by omega) (by omega), e (500 + 9 * i + 6) (by omega) (by omega), e (500 + 9 * i + 7) (by omega) (by omega), e (500 + 9 * i + 8) (by omega) (by omega)]
  exact h i i0 (by omega)
theorem fr_ru {a b : Int → Int} (e : ∀ x, 800 ≤ x → x < 920 → b x = a x) (n : b 5 ≤ a 5) (hn : a 5 ≤ 40) (c : a 4 ≤ b 4) (h : RAru a) : RAru b := fun i i0 i1 => by
  rw [e (800 + 3 * i) (by omega) (by omega), e (800 + 3 * i + 1) (by omega) (by omega), e (800 + 3 * i + 2) (by omega) (by omega)]
  have z := h i i0 (by omega)
  exact ⟨⟨z.1.1, by omega⟩, z.2⟩
theorem fr_jo {a b : Int → Int} (e : ∀ x, 1000 ≤ x → x < 2200 → b x = a x) (n : b 6 ≤ a 6) (hn : a 6 ≤ 120) (c1 : a 1 ≤ b 1) (c2 : a 2 ≤ b 2) (c3 : a 3 ≤ b 3) (h : RAjo a) : RAjo b := fun i i0 i1 => by
  rw [e (1000 + 10 * i) (by omega) (by omega), e (1000 + 10 * i + 1) (by omega) (by omega), e (1000 + 10 * i + 2) (by omega) (by omega), e (1000 + 10 * i + 3) (by omega) (by omega), e (1000 + 10 * i + 4) (by omega) (by omega), e (1000 + 10 * i + 5) (by omega) (by omega), e (1000 + 10 * i + 6) (by omega) (by omega), e (1000 + 10 * i + 7) (by omega) (by omega), e (1000 + 10 * i + 8) (by omega) (by omega)]
  have z := h i i0 (by omega)
  exact ⟨⟨z.1.1, by omega⟩, ⟨z.2.1.1, by omega⟩, ⟨z.2.2.1.1, by omega⟩, z.2.2.2⟩
theorem fr_re {a b : Int → Int} (e : ∀ x, 2300 ≤ x → x < 2320 → b x = a x) (h : RAre a) : RAre b := fun f f0 f1 => by
  rw [e (2300 + f) (by omega) (by omega)]
  exact h f f0 f1
theorem fr_pa {a b : Int → Int} (e : ∀ x, 3000 ≤ x → x < 40000 → b x = a x) (h : RApa a) : RApa b := fun f y f0 f1 y0 y1 => by
  rw [e (3000 + 50 * f + y) (by omega) (by omega)]
  exact h f y f0 f1 y0 y1
theorem fr_th {a b : Int → Int} (e : ∀ x, 3000 ≤ x → x < 40000 → b x = a x) (h : RAth a) : RAth b := fun f k f0 f1 k0 k1 => by
  rw [e (4000 + 600 * f + k) (by omega) (by omega), e (16000 + 600 * f + k) (by omega) (by omega), e (28000 + 600 * f + k) (by omega) (by omega)]
  exact h f k f0 f1 k0 k1
theorem fr_pt {a b : Int → Int} (e0 : b 0 = a 0) (e : ∀ x, 3000 ≤ x → x < 40000 → b x = a x) (h : PTn a 0) : PTn b 0 := fun f y f0 f1 y0 y1 => by
  rw [e0, e (3000 + 50 * f + y) (by omega) (by omega)]
  exact h f y f0 f1 y0 y1
theorem fr_hz {a b : Int → Int} (e0 : a 0 ≤ b 0) (b0 : 0 ≤ a 0) (e : ∀ x, 3000 ≤ x → x < 40000 → b x = a x) (h : HZ a) : HZ b := fun f k f0 f1 k0 k1 => by
  rw [e (16000 + 600 * f + k) (by omega) (by omega)]
  exact h f k f0 f1 (by omega) k1
theorem fr_rj {a b : Int → Int} (e : ∀ x, 1000 ≤ x → x < 2200 → b x = a x) (ec : ∀ x, 500 ≤ x → x < 500 + 9 * a 3 → b x = a x) (n : b 6 ≤ a 6) (hn : a 6 ≤ 120) (c0 : a 0 ≤ b 0) (r : RAjo a) (h : RJ a) : RJ b := fun j j0 j1 => by
  have z := h j j0 (by omega)
  have q := (r j j0 (by omega)).2.1
  rw [e (1000 + 10 * j + 5) (by omega) (by omega), e (1000 + 10 * j + 3) (by omega) (by omega), e (1000 + 10 * j + 1) (by omega) (by omega), e (1000 + 10 * j + 6) (by omega) (by omega)]
  rw [ec (500 + 9 * a (1000 + 10 * j + 1) + 6) (by omega) (by omega)]
  exact ⟨z.1, fun y => ⟨by have := (z.2 y).1; omega, (z.2 y).2⟩⟩
theorem fr_jb {a b : Int → Int} (e : ∀ x, 1000 ≤ x → x < 2200 → b x = a x) (h : JB a) : JB b := fun j j0 j1 => by
  rw [e (1000 + 10 * j + 4) (by omega) (by omega), e (1000 + 10 * j + 6) (by omega) (by omega), e (1000 + 10 * j + 8) (by omega) (by omega)]
  exact h j j0 j1
theorem BI_mk {a b : Int → Int} (I : BI a) (e0 : b 0 = a 0) (hi : ∀ x, 3000 ≤ x → x < 40000 → b x = a x) (c1 : 0 ≤ b 1 ∧ b 1 ≤ 20) (c2 : 0 ≤ b 2 ∧ b 2 ≤ 60) (c3 : 0 ≤ b 3 ∧ b 3 ≤ 24) (c4 : 0 ≤ b 4 ∧ b 4 ≤ 10) (c5 : 0 ≤ b 5 ∧ b 5 ≤ 40) (c6 : 0 ≤ b 6 ∧ b 6 ≤ 120) (tr : RAtr b) (li : RAli b) (ha : RAha b) (co : RAco b) (ru : RAru b) (jo : RAjo b) (re : RAre b) (J : RJ b) (Y : JB b) : BI b := by
  obtain ⟨R, P, -, Z, -⟩ := I
  have z0 := R.c0
  exact ⟨⟨by rw [e0]; exact R.c0, c1, c2, c3, c4, c5, c6, tr, li, ha, co, ru, jo, re, fr_pa hi R.pa, fr_th hi R.th⟩, fr_pt e0 hi P, J, fr_hz (by omega) z0.1 hi Z, Y⟩
theorem BI_ext {a b : Int → Int} (e : ∀ x, 0 ≤ x → x < 40000 → b x = a x) (I : BI a) : BI b := by
  obtain ⟨R, P, J, Z, Y⟩ := I
  have e0 := e 0 (by decide) (by decide)
  have e1 := e 1 (by decide) (by decide)
  have e2 := e 2 (by decide) (by decide)
  have e3 := e 3 (by decide) (by decide)
  have e4 := e 4 (by decide) (by decide)
  have e5 := e 5 (by decide) (by decide)
  have e6 := e 6 (by decide) (by decide)
  have c0 := R.c0
  have c1 := R.c1
  have c2 := R.c2
  have c3 := R.c3
  have c4 := R.c4
  have c5 := R.c5
  have c6 := R.c6
  exact BI_mk ⟨R, P, J, Z, Y⟩ e0 (fun x x0 x1 => e x (by omega) x1) (by omega) (by omega) (by omega) (by omega) (by omega) (by omega) (fr_tr (fun x x0 x1 => e x (by omega) (by omega)) R.tr) (fr_li (fun x x0 x1 => e x (by omega) (by omega)) R.li) (fr_ha (fun x x0 x1 => e x (by omega) (by omega)) (by omega) c2.2 (by omega) R.ha) (fr_co (fun x x0 x1 => e x (by omega) (by omega)) (by omega) c3.2 R.co) (fr_ru (fun x x0 x1 => e x (by omega) (by omega)) (by omega) c5.2 (by omega) R.ru) (fr_jo (fun x x0 x1 => e x (by omega) (by omega)) (by omega) c6.2 (by omega) (by omega) (by omega) R.jo) (fr_re (fun x x0 x1 => e x (by omega) (by omega)) R.re) (fr_rj (fun x x0 x1 => e x (by omega) (by omega)) (fun x x0 x1 => e x (by omega) (by omega)) (by omega) c6.2 (by omega) R.jo J) (fr_jb (fun x x0 x1 => e x (by omega) (by omega)) Y)
/-- the board alone has changed -/
theorem RX_10 {m m2 : jx_H} {B B2 : Int} (X : RX m B) (er : ∀ a, a ≠ 10 → a ≠ 1 → m2 a = m a) (e1 : ∀ x, x ≠ 2 → m2 1 x = m 1 x) (b0 : BI (m2 10)) (e4 : m2 10 4 = m 10 4) (c : m 10 0 ≤ m2 10 0 ∧ m 10 3 ≤ m2 10 3 ∧ m 10 5 ≤ m2 10 5) (hB : B ≤ B2) (f : FUb m2 B2) : RX m2 B2 := by
  have cc := X.cc
  have f3 := X.f3
  have e11 := er 11 (by decide) (by decide)
  refine rx_mk b0 (by rw [e11]; exact X.b1) (TX_le (by omega) (er 20 (by decide) (by decide)) (er 21 (by decide) (by decide)) (er 22 (by decide) (by decide)) (er 23 (by decide) (by decide)) (er 24 (by decide) (by decide)) X.tx) (TY_le (by omega) (er 20 (by decide) (by decide)) (er 22 (by decide) (by decide)) (er 23 (by decide) (by decide)) (er 24 (by decide) (by decide)) X.ty) (RT_eq (e1 7 (by decide)) (e1 5 (by decide)) (er 14 (by decide) (by decide)) X.rt) (BY_eq (er 16 (by decide) (by decide)) X.yb) ?_ f ?_
  · rw [e11]; omega
  · rw [e1 3 (by decide)]; omega
/-- the same with the fund left -/
theorem RX_10e {m m2 : jx_H} {B : Int} (X : RX m B) (er : ∀ a, a ≠ 10 → m2 a = m a) (b0 : BI (m2 10)) (e4 : m2 10 4 = m 10 4) (c : m 10 0 ≤ m2 10 0 ∧ m 10 3 ≤ m2 10 3 ∧ m 10 5 ≤ m2 10 5) : RX m2 B := RX_10 X (fun a h _ => er a h) (fun x _ => by rw [er 1 (by decide)]) b0 e4 c (Int.le_refl _) (FUb_eq (by rw [er 1 (by decide)]) (Int.le_refl _) X.fu)
theorem RX_B {m : jx_H} {B B2 : Int} (X : RX m B) (hB : B ≤ B2) : RX m B2 := by
  have f := X.fu
  have f3 := X.f3
  exact rx_mk X.b0 X.b1 X.tx X.ty X.rt X.yb X.cc (FUb_eq rfl hB f) (by omega)
