/-! the JDK's few, ends, and a method out of its table -/
section JE
variable {p : Program} {l : Launch} {e : Env} {s : State} {m : MethodId} {args : Array Value} {below : List Frame} {meth : Method} {c : Code} {Q : State → Prop}
variable {o d cn sn : Nat} {R : Room} {hd : jx_Hd} {w : jx_Wd} {D : va_G} {tA : Nat → ClassId} {α : Int → Nat} {pc : Nat} {lv : jx_L} {st : List jx_V} {h : jx_H}
theorem jx_ite {c : Prop} [Decidable c] {f : Int → Value} {a b : Int} : f (if c then a else b) = if c then f a else f b := by split <;> rfl
theorem js_jdk (X : jx_Ctx p s m args meth c o hd w D tA α) (h1d : 1 ≤ d) (hRd : (d ≤ R.frames ∧ 100 * d ≤ R.locals) ∧ cn ≤ R.cells ∧ sn ≤ R.slots) {n k : Nat} (hdg : decode hd.2.1 pc = .ok (.invokestatic n, 3)) (hj : jx_JL.any (fun r => decide (r.1 = o ∧ r.2.1 = n ∧ r.2.2.1 = k)) = true)
    (hn : jx_jdk w k st h fun r h' => jx_Gd p l e s m args below meth c Q R cn sn hd w D tA α (pc + 3) lv r h') : jx_Gd p l e s m args below meth c Q R cn sn hd w D tA α pc lv st h := by
  have hlink := X.2.2.2.2.2.1 _ (jx_jl_mem hj)
  obtain ⟨hx, hb, hr, hml, hown, hts, hlk, hK, hap, hE, hW⟩ := X
  unfold jx_jdk at hn
  split at hn
  · unfold jx_i2 at hn
    split at hn
    · rename_i y x r
      obtain ⟨hw8, hn⟩ := hn
      intro H locs ls hP hS hl
      have hz := hn H locs ls hP hS hl
      refine va_mmax (R := R) hx hb (hml.trans hl.1.symm) hown hlink (hts _ jx_j1_s) (hts _ jx_jm_i) (hts _ jx_j1_c) (by omega) (by rw [jx_w_cat]; omega) (by omega) (by omega) hdg ?_
      have e1 : (if Int32.ofInt x < Int32.ofInt y then Int32.ofInt y else Int32.ofInt x) = Int32.ofInt (if w32 x < w32 y then y else x) := by
        by_cases hc : w32 x < w32 y
        · rw [if_pos hc, if_pos ((i32_lt x y).mpr hc)]
        · rw [if_neg hc, if_neg (fun q => hc ((i32_lt x y).mp q))]
      rw [e1]
      exact hz
    · exact hn.elim
  · unfold jx_i2 at hn
    split at hn
    · rename_i y x r
      obtain ⟨hw8, hn⟩ := hn
      intro H locs ls hP hS hl
      have hz := hn H locs ls hP hS hl
      refine va_mmin (R := R) hx hb (hml.trans hl.1.symm) hown hlink (hts _ jx_j2_s) (hts _ jx_jm_i) (hts _ jx_j2_c) (by omega) (by rw [jx_w_cat]; omega) (by omega) (by omega) hdg ?_
      have e1 : (if Int32.ofInt y < Int32.ofInt x then Int32.ofInt y else Int32.ofInt x) = Int32.ofInt (if w32 y < w32 x then y else x) := by
        by_cases hc : w32 y < w32 x
        · rw [if_pos hc, if_pos ((i32_lt y x).mpr hc)]
        · rw [if_neg hc, if_neg (fun q => hc ((i32_lt y x).mp q))]
      rw [e1]
      exact hz
    · exact hn.elim
  · unfold jx_i1 at hn
    split at hn
    · rename_i x r
      obtain ⟨hw8, hn⟩ := hn
      intro H locs ls hP hS hl
      have hz := hn H locs ls hP hS hl
      refine va_mabs (R := R) hx hb (hml.trans hl.1.symm) hown hlink (hts _ jx_j3_s) (hts _ jx_jm_i) (hts _ jx_j3_c) (by omega) (by rw [jx_w_cat]; omega) (by omega) (by omega) hdg ?_
      have e1 : (if 0 ≤ Int32.ofInt x then Int32.ofInt x else 0 - Int32.ofInt x) = Int32.ofInt (if 0 ≤ w32 x then x else 0 - x) := by
        by_cases hc : 0 ≤ w32 x
        · rw [if_pos hc, if_pos ((i32_0le x).mpr hc)]
        · rw [if_neg hc, if_neg (fun q => hc ((i32_0le x).mp q)), show (0 : Int32) = Int32.ofInt 0 from rfl, i32_sub]
      rw [e1]
      exact hz
    · exact hn.elim
  · unfold jx_l2 at hn
    split at hn
    · rename_i y x r
      obtain ⟨hw8, hn⟩ := hn
      intro H locs ls hP hS hl
      have hz := hn H locs ls hP hS hl
      refine va_mmax_long (R := R) hx hb (hml.trans hl.1.symm) hown hlink (hts _ jx_j4_s) (hts _ jx_jm_i) (hts _ jx_j4_c) (by omega) (by rw [jx_w_cat]; omega) (by omega) (by omega) hdg ?_
      have e1 : (if Int64.ofInt y < Int64.ofInt x then Int64.ofInt x else Int64.ofInt y) = Int64.ofInt (if w64 y < w64 x then x else y) := by
        by_cases hc : w64 y < w64 x
        · rw [if_pos hc, if_pos ((i64_lt y x).mpr hc)]
        · rw [if_neg hc, if_neg (fun q => hc ((i64_lt y x).mp q))]
      rw [e1]
      exact hz
    · exact hn.elim
  · unfold jx_l2 at hn
    split at hn
    · rename_i y x r
      obtain ⟨hw8, hn⟩ := hn
      intro H locs ls hP hS hl
      have hz := hn H locs ls hP hS hl
      refine va_mmin_long (R := R) hx hb (hml.trans hl.1.symm) hown hlink (hts _ jx_j5_s) (hts _ jx_jm_i) (hts _ jx_j5_c) (by omega) (by rw [jx_w_cat]; omega) (by omega) (by omega) hdg ?_
      have e1 : (if Int64.ofInt y < Int64.ofInt x then Int64.ofInt y else Int64.ofInt x) = Int64.ofInt (if w64 y < w64 x then y else x) := by
        by_cases hc : w64 y < w64 x
        · rw [if_pos hc, if_pos ((i64_lt y x).mpr hc)]
        · rw [if_neg hc, if_neg (fun q => hc ((i64_lt y x).mp q))]
      rw [e1]
      exact hz
    · exact hn.elim
  · split at hn
    · rename_i nn dp b sp a r
      obtain ⟨hw8, ha1, hb1, ha2, hb2, g1, g2, g3, g4, g5, hn⟩ := hn
      obtain ⟨ha0, qa, hqa, hwa⟩ := jx_arr hW (show (w.2.1 a).1 < 4 by omega) tA α
      obtain ⟨hb0, qb, hqb, hwb⟩ := jx_arr hW (show (w.2.1 b).1 < 4 by omega) tA α
      have i1 := jx_ix sp g1
      have i2 := jx_ix dp g2
      have i3 := jx_ix nn g3
      have hneg : ∀ z : Int, 0 ≤ w32 z → ¬ Int32.ofInt z < 0 := fun z hz q => by have := (i32_lt0 z).mp q; omega
      intro H locs ls hP hS hl
      have hl1 : (F0 m pc ls [] : JFrame).locals = ls := rfl
      rw [List.map_cons, List.map_cons, List.map_cons, List.map_cons, List.map_cons, show jx_cv α (.inr (.inr a)) = .ref (α a) from jx_ref α ha0, show jx_cv α (.inr (.inr b)) = .ref (α b) from jx_ref α hb0]
      have hnw : nativeFrameWords "java/lang/System" "arraycopy" 5 + 11 ≤ 60 := by decide +kernel
      refine va_copyi (R := R) hx hb (hml.trans hl.1.symm) hown hlink (hts _ jx_j6_n) (hts _ jx_j6_s) (hts _ jx_j6_i) hK hP (jx_D h hW.1 hap) hS qa qb 0 0 (by rw [hwa h, jx_ent1 ha1 ha2]) (by rw [hwb h, jx_ent1 hb1 hb2]) (jx_ty (by decide)) (jx_ty (by decide)) rfl (hneg sp g1) (hneg dp g2) (hneg nn g3) (by omega) (by omega) (fun i _ => rfl) (by omega) (by rw [jx_w_cat]; omega) hdg (fun H1 locs1 hP1 _ hS1 => ?_)
      refine hn H1 locs1 ls ?_ hS1 hl
      have e1 : jx_ent tA α w (jx_cpy h a b (w32 sp) (w32 dp) (w32 nn)) b = .inl (tA 0, (w.2.1 b).2.2, .inl (va_cpy (fun j : Nat => Int32.ofInt (h a (j : Int))) (fun j : Nat => Int32.ofInt (h b (j : Int))) (Int32.ofInt sp).toNatClampNeg (Int32.ofInt dp).toNatClampNeg (Int32.ofInt nn).toNatClampNeg)) := by
        rw [jx_ent1 hb1 hb2]
        congr 4
        funext j
        unfold va_cpy jx_cpy
        by_cases hc : (Int32.ofInt dp).toNatClampNeg ≤ j ∧ j < (Int32.ofInt dp).toNatClampNeg + (Int32.ofInt nn).toNatClampNeg
        · rw [if_pos hc, if_pos ⟨rfl, by omega, by omega⟩]
          congr 2
          omega
        · rw [if_neg hc, if_neg (fun q => hc ⟨by omega, by omega⟩)]
      rw [jx_wset (h' := jx_cpy h a b (w32 sp) (w32 dp) (w32 nn)) hW.1 hqb e1 (fun b' hb' => jx_ent_ne (fun i => by unfold jx_cpy; rw [if_neg (fun q => hb' q.1)]))] at hP1
      exact hP1
    · exact hn.elim
  · exact hn.elim
theorem js_iret (X : jx_Ctx p s m args meth c o hd w D tA α) {K : Int → jx_H → Prop} (hQ : (∃ z h', K z h') → Q = MQ below (jx_Qc w D tA α hd.2.2.2.2.2.1 K) args s cn sn (jx_A w α)) (hrt : jx_rok hd.2.2.2.1 hd.2.2.2.2.2.1) (hdg : decode hd.2.1 pc = .ok (.ireturn, 1)) (hn : jx_i1 st fun x r => r = [] ∧ (hd.2.2.2.2.2.1 = 1 ∨ hd.2.2.2.2.2.1 = 4 ∧ (x = 0 ∨ x = 1)) ∧ K x h) : jx_Gd p l e s m args below meth c Q R cn sn hd w D tA α pc lv st h := by
  obtain ⟨hx, hb, hr, hml, hown, hts, hlk, hK, hap, hE, hW⟩ := X
  unfold jx_i1 at hn
  split at hn
  · rename_i x r
    obtain ⟨rfl, h1, h2⟩ := hn
    intro H locs ls hP hS hl
    rw [hQ ⟨_, _, h2⟩]
    rcases h1 with h1 | ⟨h1, hx01⟩
    · rw [h1] at hrt
      exact W.iret (v := Int32.ofInt x) hx hb (hr.trans hrt) (fun t ht hWm => ⟨⟨x, h, by rw [h1]; rfl, h2, by rw [ht]; exact hP⟩, hS.F ht⟩) hS.2.2 hdg hlk
    · rw [h1] at hrt
      exact W.zret (v := Int32.ofInt x) hx hb (hr.trans hrt) (by rcases hx01 with rfl | rfl <;> rfl) (fun t ht hWm => ⟨⟨x, h, by rw [h1]; rfl, h2, by rw [ht]; exact hP⟩, hS.F ht⟩) hS.2.2 hdg hlk
  · exact hn.elim
theorem jx_narc : ∀ k : Nat, k < 256 → narrow .char (.int (Int32.ofInt (k : Int))) = .int (Int32.ofInt (k : Int)) := by decide +kernel
theorem js_cret (X : jx_Ctx p s m args meth c o hd w D tA α) {K : Int → jx_H → Prop} (hQ : (∃ z h', K z h') → Q = MQ below (jx_Qc w D tA α hd.2.2.2.2.2.1 K) args s cn sn (jx_A w α)) (hrt : jx_rok hd.2.2.2.1 hd.2.2.2.2.2.1) (hdg : decode hd.2.1 pc = .ok (.ireturn, 1)) (h5 : hd.2.2.2.2.2.1 = 5) (hn : jx_i1 st fun x r => r = [] ∧ (0 ≤ x ∧ x < 256) ∧ K x h) : jx_Gd p l e s m args below meth c Q R cn sn hd w D tA α pc lv st h := by
  obtain ⟨hx, hb, hr, hml, hown, hts, hlk, hK, hap, hE, hW⟩ := X
  unfold jx_i1 at hn
  split at hn
  · rename_i x r
    obtain ⟨rfl, h1, h2⟩ := hn
    intro H locs ls hP hS hl
    rw [hQ ⟨_, _, h2⟩]
    rw [h5] at hrt
    have hnar := jx_narc x.toNat (by omega)
    rw [show ((x.toNat : Nat) : Int) = x by omega] at hnar
    exact W.zret (v := Int32.ofInt x) hx hb (hr.trans hrt) hnar (fun t ht hWm => ⟨⟨x, h, by rw [h5]; rfl, h2, by rw [ht]; exact hP⟩, hS.F ht⟩) hS.2.2 hdg hlk
  · exact hn.elim
theorem js_bret (X : jx_Ctx p s m args meth c o hd w D tA α) {K : Int → jx_H → Prop} (hQ : (∃ z h', K z h') → Q = MQ below (jx_Qc w D tA α hd.2.2.2.2.2.1 K) args s cn sn (jx_A w α)) (hrt : jx_rok hd.2.2.2.1 hd.2.2.2.2.2.1) (hdg : decode hd.2.1 pc = .ok (.ireturn, 1)) (h5 : hd.2.2.2.2.2.1 = 6) (hn : jx_i1 st fun x r => r = [] ∧ x = 0 ∧ K x h) : jx_Gd p l e s m args below meth c Q R cn sn hd w D tA α pc lv st h := by
  obtain ⟨hx, hb, hr, hml, hown, hts, hlk, hK, hap, hE, hW⟩ := X
  unfold jx_i1 at hn
  split at hn
  · rename_i x r
    obtain ⟨rfl, rfl, h2⟩ := hn
    intro H locs ls hP hS hl
    rw [hQ ⟨_, _, h2⟩]
    rw [h5] at hrt
    exact W.zret (v := Int32.ofInt 0) hx hb (hr.trans hrt) rfl (fun t ht hWm => ⟨⟨0, h, by rw [h5]; rfl, h2, by rw [ht]; exact hP⟩, hS.F ht⟩) hS.2.2 hdg hlk
  · exact hn.elim
theorem js_lret (X : jx_Ctx p s m args meth c o hd w D tA α) {K : Int → jx_H → Prop} (hQ : (∃ z h', K z h') → Q = MQ below (jx_Qc w D tA α hd.2.2.2.2.2.1 K) args s cn sn (jx_A w α)) (hrt : jx_rok hd.2.2.2.1 hd.2.2.2.2.2.1) (hdg : decode hd.2.1 pc = .ok (.lreturn, 1)) (hn : jx_l1 st fun x r => r = [] ∧ hd.2.2.2.2.2.1 = 2 ∧ K x h) : jx_Gd p l e s m args below meth c Q R cn sn hd w D tA α pc lv st h := by
  obtain ⟨hx, hb, hr, hml, hown, hts, hlk, hK, hap, hE, hW⟩ := X
  unfold jx_l1 at hn
  split at hn
  · rename_i x r
    obtain ⟨rfl, h1, h2⟩ := hn
    intro H locs ls hP hS hl
    rw [hQ ⟨_, _, h2⟩]
    rw [h1] at hrt
    exact W.lret (v := Int64.ofInt x) hx hb (hr.trans hrt) (fun t ht hWm => ⟨⟨x, h, by rw [h1]; rfl, h2, by rw [ht]; exact hP⟩, hS.F ht⟩) hS.2.2 hdg hlk
  · exact hn.elim
theorem js_aret (X : jx_Ctx p s m args meth c o hd w D tA α) {K : Int → jx_H → Prop} (hQ : (∃ z h', K z h') → Q = MQ below (jx_Qc w D tA α hd.2.2.2.2.2.1 K) args s cn sn (jx_A w α)) (hrt : jx_rok hd.2.2.2.1 hd.2.2.2.2.2.1) (hdg : decode hd.2.1 pc = .ok (.areturn, 1)) (hn : jx_a1 st fun x r => r = [] ∧ hd.2.2.2.2.2.1 = 3 ∧ 0 ≤ x ∧ K x h) : jx_Gd p l e s m args below meth c Q R cn sn hd w D tA α pc lv st h := by
  obtain ⟨hx, hb, hr, hml, hown, hts, hlk, hK, hap, hE, hW⟩ := X
  unfold jx_a1 at hn
  split at hn
  · rename_i x r
    obtain ⟨rfl, h1, h0, h2⟩ := hn
    intro H locs ls hP hS hl
    rw [hQ ⟨_, _, h2⟩]
    rw [h1] at hrt
    obtain ⟨nm, hrt⟩ := hrt
    exact W.aret (v := jx_cv α (vr x)) hx hb (hr.trans hrt) (Or.inl ⟨nm, rfl⟩) (Or.inr ⟨_, jx_ref α h0⟩) (fun t ht hWm => ⟨⟨x, h, by rw [h1]; rfl, h2, by rw [ht]; exact hP⟩, hS.F ht⟩) hS.2.2 hdg hlk
  · exact hn.elim
theorem js_vret (X : jx_Ctx p s m args meth c o hd w D tA α) {K : Int → jx_H → Prop} (hQ : (∃ z h', K z h') → Q = MQ below (jx_Qc w D tA α hd.2.2.2.2.2.1 K) args s cn sn (jx_A w α)) (hrt : jx_rok hd.2.2.2.1 hd.2.2.2.2.2.1) (hdg : decode hd.2.1 pc = .ok (.return_, 1)) (hn : hd.2.2.2.2.2.1 = 0 ∧ st = [] ∧ K 0 h) : jx_Gd p l e s m args below meth c Q R cn sn hd w D tA α pc lv st h := by
  obtain ⟨hx, hb, hr, hml, hown, hts, hlk, hK, hap, hE, hW⟩ := X
  obtain ⟨h1, rfl, h2⟩ := hn
  intro H locs ls hP hS hl
  rw [hQ ⟨_, _, h2⟩]
  rw [h1] at hrt
  exact W.vret hx hb (hr.trans hrt) (fun t ht hWm => ⟨⟨0, h, by rw [h1]; rfl, h2, by rw [ht]; exact hP⟩, hS.F ht⟩) hS.2.2 hdg hlk
/-- one instruction -/
theorem jx_inst (X : jx_Ctx p s m args meth c o hd w D tA α) (hRd : (d ≤ R.frames ∧ 100 * d ≤ R.locals) ∧ cn ≤ R.cells ∧ sn ≤ R.slots) {K : Int → jx_H → Prop} (hQ : (∃ z h', K z h') → Q = MQ below (jx_Qc w D tA α hd.2.2.2.2.2.1 K) args s cn sn (jx_A w α)) (hrt : jx_rok hd.2.2.2.1 hd.2.2.2.2.2.1) (h1d : 1 ≤ d) {i : Instr} {len : Nat} {q : jx_R} (hdg : decode hd.2.1 pc = .ok (i, len)) (hch : jx_chi o hd.2.2.1 pc i q = true) (hlen : (decide (len = jx_len i) || jx_isw i) = true)
    (hn : jx_nx w (jx_C w d) K hd.2.2.2.2.2.1 pc i q (fun lv st h => jx_Gd p l e s m args below meth c Q R cn sn hd w D tA α (pc + len) lv st h) (fun t lv st h => jx_Gd p l e s m args below meth c Q R cn sn hd w D tA α t lv st h) lv st h) : jx_Gd p l e s m args below meth c Q R cn sn hd w D tA α pc lv st h := by
  have hlen' : ∀ (hns : jx_isw i = false), len = jx_len i := by
    intro hns
    rw [hns, Bool.or_false] at hlen
    exact of_decide_eq_true hlen
  cases i
  case iconst n => cases hlen' rfl; exact js_iconst X hdg hn
  case bipush n => cases hlen' rfl; exact js_bipush X hdg (of_decide_eq_true hch) hn
  case sipush n => cases hlen' rfl; exact js_sipush X hdg (of_decide_eq_true hch) hn
  case lconst n => cases hlen' rfl; exact js_lconst X hdg hn
  case ldc n =>
    cases hlen' rfl
    dsimp only [jx_nx] at hn
    split at hn
    · exact js_ldc X hdg hch hn
    · exact js_ldcs X hdg hch hn
    · exact hn.elim
  case ldc_w n =>
    cases hlen' rfl
    dsimp only [jx_nx] at hn
    split at hn
    · exact js_ldcw X hdg hch hn
    · exact hn.elim
  case ldc2_w n =>
    cases hlen' rfl
    dsimp only [jx_nx] at hn
    split at hn
    · exact js_ldc2 X hdg hch hn
    · exact hn.elim
  case iload n => cases hlen' rfl; exact js_iload X hdg hn
  case iload_n n => cases hlen' rfl; exact js_iload_n X hdg hn
  case lload n => cases hlen' rfl; exact js_lload X hdg hn
  case lload_n n => cases hlen' rfl; exact js_lload_n X hdg hn
  case aload n => cases hlen' rfl; exact js_aload X hdg hn
  case aload_n n => cases hlen' rfl; exact js_aload_n X hdg hn
  case istore n => cases hlen' rfl; exact js_istore X hdg (of_decide_eq_true hch) hn
  case istore_n n => cases hlen' rfl; exact js_istore_n X hdg (of_decide_eq_true hch) hn
  case lstore n => cases hlen' rfl; exact js_lstore X hdg (of_decide_eq_true hch) hn
  case lstore_n n => cases hlen' rfl; exact js_lstore_n X hdg (of_decide_eq_true hch) hn
  case astore n => cases hlen' rfl; exact js_astore X hdg (of_decide_eq_true hch) hn
  case astore_n n => cases hlen' rfl; exact js_astore_n X hdg (of_decide_eq_true hch) hn
  case iinc n z => cases hlen' rfl; exact js_iinc X hdg (of_decide_eq_true hch) hn
  case iadd => cases hlen' rfl; exact js_iadd X hdg hn
  case isub => cases hlen' rfl; exact js_isub X hdg hn
  case imul => cases hlen' rfl; exact js_imul X hdg hn
  case idiv => cases hlen' rfl; exact js_idiv X hdg hn
  case irem => cases hlen' rfl; exact js_irem X hdg hn
  case ineg => cases hlen' rfl; exact js_ineg X hdg hn
  case iand => cases hlen' rfl; exact js_iand X hdg hn
  case ior => cases hlen' rfl; exact js_ior X hdg hn
  case ixor => cases hlen' rfl; exact js_ixor X hdg hn
  case ishl => cases hlen' rfl; exact js_ishl X hdg hn
  case ishr => cases hlen' rfl; exact js_ishr X hdg hn
  case iushr => cases hlen' rfl; exact js_iushr X hdg hn
  case ladd => cases hlen' rfl; exact js_ladd X hdg hn
  case lsub => cases hlen' rfl; exact js_lsub X hdg hn
  case lmul => cases hlen' rfl; exact js_lmul X hdg hn
  case ldiv => cases hlen' rfl; exact js_ldiv X hdg hn
  case lneg => cases hlen' rfl; exact js_lneg X hdg hn
  case land => cases hlen' rfl; exact js_land X hdg hn
  case lor => cases hlen' rfl; exact js_lor X hdg hn
  case lcmp => cases hlen' rfl; exact js_lcmp X hdg hn
  case i2l => cases hlen' rfl; exact js_i2l X hdg hn
  case l2i => cases hlen' rfl; exact js_l2i X hdg hn
  case i2b => cases hlen' rfl; exact js_i2b X hdg hn
  case i2c => cases hlen' rfl; exact js_i2c X hdg hn
  case dup =>
    cases hlen' rfl
    dsimp only [jx_nx] at hn
    split at hn
    · exact js_dup X hdg hn.1 hn.2
    · exact hn.elim
  case dup_x1 =>
    cases hlen' rfl
    dsimp only [jx_nx] at hn
    split at hn
    · exact js_dup_x1 X hdg hn.1 hn.2.1 hn.2.2
    · exact hn.elim
  case dup2 =>
    cases hlen' rfl
    dsimp only [jx_nx] at hn
    split at hn
    · exact js_dup2 X hdg hn.1 hn.2.1 hn.2.2
    · exact hn.elim
  case goto off => cases hlen' rfl; exact js_goto X hdg (of_decide_eq_true hch) hn
  case ifCond k off => cases hlen' rfl; exact js_if X hdg (of_decide_eq_true hch) hn
  case if_icmp k off => cases hlen' rfl; exact js_icmp X hdg (of_decide_eq_true hch) hn
  case tableswitch df lo hi offs =>
    have h1 := (Bool.and_eq_true _ _).mp hch
    have h2 := (Bool.and_eq_true _ _).mp h1.2
    exact js_tsw X hdg (of_decide_eq_true h1.1) (fun f hf => of_decide_eq_true (List.all_eq_true.mp h2.1 f hf)) (of_decide_eq_true h2.2) hn
  case lookupswitch df ps =>
    have h1 := (Bool.and_eq_true _ _).mp hch
    have h2 := (Bool.and_eq_true _ _).mp h1.2
    exact js_lsw X hdg (of_decide_eq_true h1.1) (fun f hf => of_decide_eq_true (List.all_eq_true.mp h2.1 f hf)) h2.2 hn
  case getstatic n =>
    cases hlen' rfl
    dsimp only [jx_nx] at hn
    split at hn
    · exact js_gets1 X hdg hch hn
    · exact js_gets2 X hdg hch hn
    · exact hn.elim
  case pop =>
    cases hlen' rfl
    dsimp only [jx_nx] at hn
    split at hn
    · exact js_pop X hdg hn.1 hn.2
    · exact hn.elim
  case getfield n =>
    cases hlen' rfl
    dsimp only [jx_nx] at hn
    dsimp only [jx_chi] at hch
    split at hn
    · exact js_getfS0 X hdg hch hn
    · exact js_getfS1 X hdg hch hn
    · rename_i ci f t z hne1 hne2
      have hch2 : (jx_FL.any (fun r => decide (r.1 = o ∧ r.2.1 = n ∧ r.2.2.1 = ci ∧ r.2.2.2.1 = f)) && decide (z = (f : Int) ∧ t = jx_tag (jx_ft ci f) ∧ t ≠ 0)) = true := by
        split at hch
        · exfalso; simp_all
        · exfalso; simp_all
        · rename_i heq; cases heq; exact hch
        · rename_i hno; exact absurd rfl (hno _ _ _ _)
      have h1 := (Bool.and_eq_true _ _).mp hch2
      have h2 := of_decide_eq_true h1.2
      exact js_getfield X hdg (jx_fl_mem h1.1) h2.1 h2.2.1 hn
    · exact hn.elim
  case putfield n =>
    cases hlen' rfl
    dsimp only [jx_nx] at hn
    split at hn
    · have h1 := (Bool.and_eq_true _ _).mp hch
      have h3 := (Bool.and_eq_true _ _).mp h1.2
      have h2 := of_decide_eq_true h3.1
      refine js_putfield X hdg (jx_fl_mem h1.1) (fun r hr => ?_) h2.1 h2.2 hn
      have h4 := h3.2
      rw [hr] at h4
      simpa using h4
    · exact hn.elim
  case iaload => cases hlen' rfl; exact js_iaload X hdg hn
  case baload =>
    cases hlen' rfl
    dsimp only [jx_nx] at hn
    split at hn
    · exact js_baldS X hdg hn
    · exact js_baload X hdg hn
  case laload => cases hlen' rfl; exact js_laload X hdg hn
  case aaload => cases hlen' rfl; exact js_aaload X hdg hn
  case iastore => cases hlen' rfl; exact js_iastore X hdg hn
  case bastore => cases hlen' rfl; exact js_bastore X hdg hn
  case lastore => cases hlen' rfl; exact js_lastore X hdg hn
  case arraylength =>
    cases hlen' rfl
    dsimp only [jx_nx] at hn
    split at hn
    · exact js_alenS X hdg hn
    · exact js_alen X hdg hn
  case invokevirtual n =>
    cases hlen' rfl
    dsimp only [jx_nx] at hn
    split at hn
    · exact js_vcall X hRd hdg hch hn
    · exact hn.elim
  case invokestatic n =>
    cases hlen' rfl
    dsimp only [jx_nx] at hn
    split at hn
    · exact js_scall X hRd hdg hch hn
    · rcases Bool.or_eq_true _ _ ▸ hch with h0 | h0
      · cases of_decide_eq_true h0
        exact hn.elim
      · exact js_jdk X h1d hRd hdg h0 hn
  case ireturn =>
    cases hlen' rfl
    dsimp only [jx_nx] at hn
    split at hn
    · rename_i h5; exact js_cret X hQ hrt hdg h5 hn
    · rename_i h5; exact js_bret X hQ hrt hdg h5 hn
    · exact js_iret X hQ hrt hdg hn
  case lreturn => cases hlen' rfl; exact js_lret X hQ hrt hdg hn
  case areturn => cases hlen' rfl; exact js_aret X hQ hrt hdg hn
  case return_ => cases hlen' rfl; exact js_vret X hQ hrt hdg hn
  all_goals exact hn.elim
theorem jx_at_mem {T : List jx_En} {t : Nat} {e : jx_En} {r : List jx_En} (h : jx_at T t = e :: r) : e ∈ T ∧ e.1 = t := by
  induction T with
  | nil => cases h
  | cons a T ih =>
    unfold jx_at at h
    split at h
    · rename_i ha; cases h; exact ⟨List.mem_cons_self, ha⟩
    · obtain ⟨h1, h2⟩ := ih h; exact ⟨List.mem_cons_of_mem _ h1, h2⟩
theorem jx_chain_at : ∀ {T : List jx_En} {t : Nat} {e e2 : jx_En} {r : List jx_En}, jx_chain T = true → jx_at T t = e :: e2 :: r → e2.1 = e.1 + e.2.2.1
  | [], _, _, _, _, _, h => by cases h
  | a :: T, t, e, e2, r, hc, h => by
    unfold jx_chain at hc
    have h1 := (Bool.and_eq_true _ _).mp hc
    unfold jx_at at h
    split at h
    · cases h; exact of_decide_eq_true h1.1
    · exact jx_chain_at h1.2 h
theorem jx_sound (X : jx_Ctx p s m args meth c o hd w D tA α) (hRd : (d ≤ R.frames ∧ 100 * d ≤ R.locals) ∧ cn ≤ R.cells ∧ sn ≤ R.slots) {K : Int → jx_H → Prop} {T : List jx_En} (hQ : (∃ z h', K z h') → Q = MQ below (jx_Qc w D tA α hd.2.2.2.2.2.1 K) args s cn sn (jx_A w α)) (hrt : jx_rok hd.2.2.2.1 hd.2.2.2.2.2.1) (h1d : 1 ≤ d) (hT : jx_tab o hd T = true) : jx_OK w (jx_C w d) K hd.2.2.2.2.2.1 T (jx_Gd p l e s m args below meth c Q R cn sn hd w D tA α) := by
  have t1 := (Bool.and_eq_true _ _).mp hT
  have t2 := (Bool.and_eq_true _ _).mp t1.2
  refine ⟨fun pc lv st h hn => ?_, fun pc lv keep st h hn => ?_⟩
  · generalize hs : jx_at T pc = suf at hn
    cases suf with
    | nil => exact hn.elim
    | cons en r =>
      obtain ⟨hmem, rfl⟩ := jx_at_mem hs
      have c1 := (Bool.and_eq_true _ _).mp (List.all_eq_true.mp t1.1 en hmem)
      have c2 := (Bool.and_eq_true _ _).mp c1.2
      refine jx_inst X hRd hQ hrt h1d (of_decide_eq_true c1.1) c2.1 c2.2 ?_
      unfold jx_one at hn
      refine jx_nx_m (jx_C_mono w d) (fun lv st h hq => ?_) (fun t lv st h hq => ?_) hn
      · cases r with
        | nil => exact hq.elim
        | cons e2 r2 =>
          rw [← jx_chain_at t2.1 hs]
          exact hq
      · generalize hs2 : jx_at T t = suf2 at hq
        cases suf2 with
        | nil => exact hq.elim
        | cons e2 r2 =>
          obtain ⟨-, rfl⟩ := jx_at_mem hs2
          exact hq
  · intro H locs ls hP hS hl
    exact hn H locs ls hP hS (jx_has.sub hl (fun q hq => by
      obtain ⟨a, ha, rfl⟩ := List.mem_map.mp hq
      exact List.mem_map.mpr ⟨a, jx_pick_mem ha, rfl⟩))
end JE
/-- the locals with which a method begins -/
def jx_arl : Nat → List jx_V → jx_L
  | _, [] => []
  | i, v :: vs => (i, v) :: jx_arl (if jx_is2 v = true then i + 2 else i + 1) vs
theorem jx_arl_cl (α : Int → Nat) : ∀ (i : Nat) (as : List jx_V), jx_cl α (jx_arl i as) = lv_args i (as.map (jx_cv α))
  | _, [] => rfl
  | i, v :: vs => by
    show (i, jx_cv α v) :: jx_cl α (jx_arl _ vs) = (i, jx_cv α v) :: lv_args _ _
    rw [jx_arl_cl α _ vs, jx_cat]
    cases jx_is2 v <;> rfl
theorem jx_lgl_len (α : Int → Nat) : ∀ (as : List jx_V), (lg_sl (as.map (jx_cv α))).length = jx_w as
  | [] => rfl
  | v :: vs => by
    have ih := jx_lgl_len α vs
    unfold lg_sl at ih ⊢
    rw [List.map_cons, List.flatMap_cons, List.length_append, ih, jx_cat]
    unfold jx_w
    rw [List.map_cons, List.sum_cons]
    cases jx_is2 v <;> rfl
/-- A METHOD OUT OF ITS TABLE: what is asked at its entry is enough -/
theorem jx_body {w : jx_Wd} {o d : Nat} {hd : jx_Hd} {as : List jx_V} {h : jx_H} {K : Int → jx_H → Prop} (T : List jx_En) (hW : jx_Wok w) (hok : jx_hok hd) (hT : jx_tab o hd T = true) (h1d : 1 ≤ d) (hfit : jx_w as ≤ hd.2.2.1)
    (hb : ∀ G : Nat → jx_L → List jx_V → jx_H → Prop, jx_OK w (jx_C w d) K hd.2.2.2.2.2.1 T G → G 0 (jx_arl 0 as) [] h) : jx_Cal w d hd as h K := by
  refine ⟨hok, fun l D tA α => ?_⟩
  obtain ⟨hcode, hini, hkind, hnotMH, hpl, hrt, hmL⟩ := id hok
  have t1 := (Bool.and_eq_true _ _).mp hT
  have t2 := (Bool.and_eq_true _ _).mp t1.2
  have t3 := (Bool.and_eq_true _ _).mp t2.2
  refine Met.ofW (cc := hd.2.1) (maxL := hd.2.2.1) (ret := hd.2.2.2.1) hpl rfl ?_
  intro p e s m args below meth c s₁ B hml hv
  obtain ⟨rfl, hP, hK, hap, hE⟩ := hv
  have hts := atoms_spec (ws := jx_ws hd) B.pre
  have hown : s.vm.findClass (jx_Rn o) = some m.cls := by
    rw [show jx_Rn o = hd.1.cls from of_decide_eq_true t3.2]
    exact findClass_of_methodNamed B.named
  have X : jx_Ctx p s m (as.map (jx_cv α)).toArray meth c o hd w D tA α := ⟨B.exec, B.bytes, B.returns, hml, hown, fun x hx => hts x (List.mem_cons_of_mem _ hx), B.notSynchronized, hK, hap, hE, hW⟩
  have hl := lv_entry (as.map (jx_cv α)) (n := hd.2.2.1) (by rw [jx_lgl_len]; exact hfit)
  rw [lg_entry_eq]
  rw [← jx_arl_cl] at hl
  exact hb _ (jx_sound (l := l) (e := e) (below := below) (R := jx_rm d) (cn := 0) (sn := 0) X ⟨⟨Nat.le_refl _, Nat.le_refl _⟩, Nat.le_refl _, Nat.le_refl _⟩ (fun _ => rfl) hrt h1d hT) s.heap [] _ hP va_S.rf hl
