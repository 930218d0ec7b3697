/-! arrays, switches, constants -/
section JA
variable {p : Program} {l : Launch} {e : Env} {s : State} {m : MethodId} {args : Array Value} {below : List Frame} {meth : Method} {c : Code} {Q : State → Prop}
variable {o d cn sn : Nat} {R : Room} {hd : jx_Hd} {w : jx_Wd} {D : va_G} {tA : Nat → ClassId} {α : Int → Nat} {pc : Nat} {lv : jx_L} {st : List jx_V} {h : jx_H}
theorem jx_ty {t : Nat} (ht : t < 9) : (jx_tys tA)[t]? = some (tA t, jx_et t) := by
  unfold jx_tys
  rw [List.getElem?_map, List.getElem?_range ht]
  rfl
theorem js_iaload (X : jx_Ctx p s m args meth c o hd w D tA α) (hdg : decode hd.2.1 pc = .ok (.iaload, 1)) (hn : jx_ai st fun a i r => jx_in w a 1 0 (w32 i) ∧ jx_Gd p l e s m args below meth c Q R cn sn hd w D tA α (pc + 1) lv (vi (h a (w32 i)) :: r) h) : jx_Gd p l e s m args below meth c Q R cn sn hd w D tA α pc lv st h := by
  obtain ⟨hx, hb, hr, hml, hown, hts, hlk, hK, hap, hE, hW⟩ := X
  unfold jx_ai at hn
  split at hn
  · rename_i i a r
    obtain ⟨⟨h1, h2, h3, h4⟩, hn⟩ := hn
    obtain ⟨h0, q, hq, hwl⟩ := jx_arr hW (show (w.2.1 a).1 < 4 by omega) tA α
    intro H locs ls hP hS hl
    have hz := hn H locs ls hP hS hl
    rw [List.map_cons, List.map_cons, show jx_cv α (.inr (.inr a)) = .ref (α a) from jx_ref α h0]
    refine va_iald hx hb hK hP q 0 (by rw [hwl h, jx_ent1 h1 h2]) (jx_ty (by decide)) (i := Int32.ofInt i) (jx_vin h3 h4) hdg ?_
    rw [jx_ix i h3]
    exact hz
  · exact hn.elim
theorem js_baload (X : jx_Ctx p s m args meth c o hd w D tA α) (hdg : decode hd.2.1 pc = .ok (.baload, 1)) (hn : jx_ai st fun a i r => (jx_in w a 1 1 (w32 i) ∨ jx_in w a 1 2 (w32 i)) ∧ jx_Gd p l e s m args below meth c Q R cn sn hd w D tA α (pc + 1) lv (vi (h a (w32 i)) :: r) h) : jx_Gd p l e s m args below meth c Q R cn sn hd w D tA α pc lv st h := by
  obtain ⟨hx, hb, hr, hml, hown, hts, hlk, hK, hap, hE, hW⟩ := X
  unfold jx_ai at hn
  split at hn
  · rename_i i a r
    obtain ⟨hin, hn⟩ := hn
    rcases hin with ⟨h1, h2, h3, h4⟩ | ⟨h1, h2, h3, h4⟩
    · obtain ⟨h0, q, hq, hwl⟩ := jx_arr hW (show (w.2.1 a).1 < 4 by omega) tA α
      intro H locs ls hP hS hl
      have hz := hn H locs ls hP hS hl
      rw [List.map_cons, List.map_cons, show jx_cv α (.inr (.inr a)) = .ref (α a) from jx_ref α h0]
      refine va_bald hx hb hK hP q 1 (by rw [hwl h, jx_ent1 h1 h2]) (jx_ty (by decide)) (i := Int32.ofInt i) (jx_vin h3 h4) hdg ?_
      rw [jx_ix i h3]
      exact hz
    · obtain ⟨h0, q, hq, hwl⟩ := jx_arr hW (show (w.2.1 a).1 < 4 by omega) tA α
      intro H locs ls hP hS hl
      have hz := hn H locs ls hP hS hl
      rw [List.map_cons, List.map_cons, show jx_cv α (.inr (.inr a)) = .ref (α a) from jx_ref α h0]
      refine va_zald hx hb hK hP q 2 (by rw [hwl h, jx_ent1 h1 h2]) (jx_ty (by decide)) (i := Int32.ofInt i) (jx_vin h3 h4) hdg ?_
      rw [jx_ix i h3]
      exact hz
  · exact hn.elim
theorem js_laload (X : jx_Ctx p s m args meth c o hd w D tA α) (hdg : decode hd.2.1 pc = .ok (.laload, 1)) (hn : jx_ai st fun a i r => jx_in w a 2 3 (w32 i) ∧ jx_Gd p l e s m args below meth c Q R cn sn hd w D tA α (pc + 1) lv (vl (h a (w32 i)) :: r) h) : jx_Gd p l e s m args below meth c Q R cn sn hd w D tA α pc lv st h := by
  obtain ⟨hx, hb, hr, hml, hown, hts, hlk, hK, hap, hE, hW⟩ := X
  unfold jx_ai at hn
  split at hn
  · rename_i i a r
    obtain ⟨⟨h1, h2, h3, h4⟩, hn⟩ := hn
    obtain ⟨h0, q, hq, hwl⟩ := jx_arr hW (show (w.2.1 a).1 < 4 by omega) tA α
    intro H locs ls hP hS hl
    have hz := hn H locs ls hP hS hl
    rw [List.map_cons, List.map_cons, show jx_cv α (.inr (.inr a)) = .ref (α a) from jx_ref α h0]
    refine va_lald hx hb hK hP q 3 (by rw [hwl h, jx_ent2 h1 h2]) (jx_ty (by decide)) (i := Int32.ofInt i) (jx_vin h3 h4) hdg ?_
    rw [jx_ix i h3]
    exact hz
  · exact hn.elim
theorem js_aaload (X : jx_Ctx p s m args meth c o hd w D tA α) (hdg : decode hd.2.1 pc = .ok (.aaload, 1)) (hn : jx_ai st fun a i r => (w.2.1 a).1 = 3 ∧ 0 ≤ w32 i ∧ w32 i < ((w.2.1 a).2.2 : Int) ∧ jx_Gd p l e s m args below meth c Q R cn sn hd w D tA α (pc + 1) lv (vr (jx_rv w h a (w32 i)) :: r) h) : jx_Gd p l e s m args below meth c Q R cn sn hd w D tA α pc lv st h := by
  obtain ⟨hx, hb, hr, hml, hown, hts, hlk, hK, hap, hE, hW⟩ := X
  unfold jx_ai at hn
  split at hn
  · rename_i i a r
    obtain ⟨h1, h3, h4, hn⟩ := hn
    obtain ⟨h0, q, hq, hwl⟩ := jx_arr hW (show (w.2.1 a).1 < 4 by omega) tA α
    have h2 := hW.2.2.2.2.2 a h1
    intro H locs ls hP hS hl
    have hz := hn H locs ls hP hS hl
    rw [List.map_cons, List.map_cons, show jx_cv α (.inr (.inr a)) = .ref (α a) from jx_ref α h0]
    have hwq := hwl h
    rw [jx_ent3 h1 rfl] at hwq
    have hty : (jx_tys tA)[(w.2.1 a).2.1]? = some (tA (w.2.1 a).2.1, jx_et (w.2.1 a).2.1) := jx_ty (by omega)
    have hlt : (Int32.ofInt i).toNatClampNeg < (w.2.1 a).2.2 := by have := jx_ix i h3; omega
    have href : (jx_et (w.2.1 a).2.1).isReference = true := by
      rcases (show (w.2.1 a).2.1 = 4 ∨ (w.2.1 a).2.1 = 5 ∨ (w.2.1 a).2.1 = 6 ∨ (w.2.1 a).2.1 = 7 ∨ (w.2.1 a).2.1 = 8 by omega) with z | z | z | z | z <;> rw [z] <;> rfl
    have hin := jx_vin h3 h4
    refine W.aald (v := va_rf (jx_opt α (jx_rv w h a (((Int32.ofInt i).toNatClampNeg : Nat) : Int)))) hx hb (hP q _ hwq) ((hK.2 _ _ hty).1 (w.2.1 a).2.2 (fun j => va_rf (jx_opt α (jx_rv w h a (j : Int))))) href (fun q => by cases q) (by show ¬ (Int32.ofInt i < 0 ∨ (arrV _ _ _).slots.size ≤ _); rw [arrV_size]; exact hin) (by show (arrV _ _ _).slots[_]? = _; rw [arrV_read _ _ hlt]) rfl rfl hdg ?_
    rw [jx_ix i h3]
    exact hz
  · exact hn.elim
theorem jx_updi {a i x : Int} (h3 : 0 ≤ w32 i) : (fun j : Nat => Int32.ofInt (hu h a (w32 i) x a (j : Int))) = upd (fun j : Nat => Int32.ofInt (h a (j : Int))) (Int32.ofInt i).toNatClampNeg (Int32.ofInt x) := by
  funext j
  have h5 := jx_ix i h3
  unfold upd
  by_cases hj : j = (Int32.ofInt i).toNatClampNeg
  · rw [if_pos hj, show (j : Int) = w32 i by omega, hu_eq]
  · rw [if_neg hj, hu_ni (show (j : Int) ≠ w32 i by omega)]
theorem js_iastore (X : jx_Ctx p s m args meth c o hd w D tA α) (hdg : decode hd.2.1 pc = .ok (.iastore, 1)) (hn : jx_aii st fun a i x r => jx_in w a 1 0 (w32 i) ∧ jx_Gd p l e s m args below meth c Q R cn sn hd w D tA α (pc + 1) lv r (hu h a (w32 i) x)) : jx_Gd p l e s m args below meth c Q R cn sn hd w D tA α pc lv st h := by
  obtain ⟨hx, hb, hr, hml, hown, hts, hlk, hK, hap, hE, hW⟩ := X
  unfold jx_aii at hn
  split at hn
  · rename_i x i a r
    obtain ⟨⟨h1, h2, h3, h4⟩, hn⟩ := hn
    obtain ⟨h0, q, hq, hwl⟩ := jx_arr hW (show (w.2.1 a).1 < 4 by omega) tA α
    intro H locs ls hP hS hl
    rw [List.map_cons, List.map_cons, List.map_cons, show jx_cv α (.inr (.inr a)) = .ref (α a) from jx_ref α h0]
    refine va_iast hx hb hK hP (jx_D h hW.1 hap) hS q 0 (by rw [hwl h, jx_ent1 h1 h2]) (jx_ty (by decide)) (i := Int32.ofInt i) (jx_vin h3 h4) hdg (fun H1 locs1 hP1 _ hS1 => ?_)
    refine hn H1 locs1 ls ?_ hS1 hl
    rw [← jx_updi h3, jx_wset (h' := hu h a (w32 i) x) hW.1 hq (jx_ent1 h1 h2 _) (fun b hb => jx_ent_ne (hu_ne hb))] at hP1
    exact hP1
  · exact hn.elim
theorem js_bastore (X : jx_Ctx p s m args meth c o hd w D tA α) (hdg : decode hd.2.1 pc = .ok (.bastore, 1)) (hn : jx_aii st fun a i x r => (jx_in w a 1 1 (w32 i) ∧ jx_Gd p l e s m args below meth c Q R cn sn hd w D tA α (pc + 1) lv r (hu h a (w32 i) (w8 x))) ∨ (jx_in w a 1 2 (w32 i) ∧ (x = 0 ∨ x = 1) ∧ jx_Gd p l e s m args below meth c Q R cn sn hd w D tA α (pc + 1) lv r (hu h a (w32 i) x))) : jx_Gd p l e s m args below meth c Q R cn sn hd w D tA α pc lv st h := by
  obtain ⟨hx, hb, hr, hml, hown, hts, hlk, hK, hap, hE, hW⟩ := X
  unfold jx_aii at hn
  split at hn
  · rename_i x i a r
    rcases hn with ⟨⟨h1, h2, h3, h4⟩, hn⟩ | ⟨⟨h1, h2, h3, h4⟩, h5, hn⟩
    · obtain ⟨h0, q, hq, hwl⟩ := jx_arr hW (show (w.2.1 a).1 < 4 by omega) tA α
      intro H locs ls hP hS hl
      rw [List.map_cons, List.map_cons, List.map_cons, show jx_cv α (.inr (.inr a)) = .ref (α a) from jx_ref α h0]
      refine va_bast hx hb hK hP (jx_D h hW.1 hap) hS q 1 (by rw [hwl h, jx_ent1 h1 h2]) (jx_ty (by decide)) (i := Int32.ofInt i) (x := Int32.ofInt x) (jx_vin h3 h4) hdg (fun H1 locs1 hP1 _ hS1 => ?_)
      refine hn H1 locs1 ls ?_ hS1 hl
      rw [vp_nar_byte, i32_b, ← jx_updi h3, jx_wset (h' := hu h a (w32 i) (w8 x)) hW.1 hq (jx_ent1 h1 h2 _) (fun b hb => jx_ent_ne (hu_ne hb))] at hP1
      exact hP1
    · obtain ⟨h0, q, hq, hwl⟩ := jx_arr hW (show (w.2.1 a).1 < 4 by omega) tA α
      intro H locs ls hP hS hl
      rw [List.map_cons, List.map_cons, List.map_cons, show jx_cv α (.inr (.inr a)) = .ref (α a) from jx_ref α h0]
      refine va_zast hx hb hK hP (jx_D h hW.1 hap) hS q 2 (by rw [hwl h, jx_ent1 h1 h2]) (jx_ty (by decide)) (i := Int32.ofInt i) (x := Int32.ofInt x) (jx_vin h3 h4) hdg (fun H1 locs1 hP1 _ hS1 => ?_)
      refine hn H1 locs1 ls ?_ hS1 hl
      have hz : vp_nar .boolean (Int32.ofInt x) = Int32.ofInt x := by rcases h5 with rfl | rfl <;> rfl
      rw [hz, ← jx_updi h3, jx_wset (h' := hu h a (w32 i) x) hW.1 hq (jx_ent1 h1 h2 _) (fun b hb => jx_ent_ne (hu_ne hb))] at hP1
      exact hP1
  · exact hn.elim
theorem jx_updl {a i x : Int} (h3 : 0 ≤ w32 i) : (fun j : Nat => Int64.ofInt (hu h a (w32 i) x a (j : Int))) = vp_updL (fun j : Nat => Int64.ofInt (h a (j : Int))) (Int32.ofInt i).toNatClampNeg (Int64.ofInt x) := by
  funext j
  have h5 := jx_ix i h3
  unfold vp_updL
  by_cases hj : j = (Int32.ofInt i).toNatClampNeg
  · rw [if_pos hj, show (j : Int) = w32 i by omega, hu_eq]
  · rw [if_neg hj, hu_ni (show (j : Int) ≠ w32 i by omega)]
theorem js_lastore (X : jx_Ctx p s m args meth c o hd w D tA α) (hdg : decode hd.2.1 pc = .ok (.lastore, 1)) (hn : jx_ail st fun a i x r => jx_in w a 2 3 (w32 i) ∧ jx_Gd p l e s m args below meth c Q R cn sn hd w D tA α (pc + 1) lv r (hu h a (w32 i) x)) : jx_Gd p l e s m args below meth c Q R cn sn hd w D tA α pc lv st h := by
  obtain ⟨hx, hb, hr, hml, hown, hts, hlk, hK, hap, hE, hW⟩ := X
  unfold jx_ail at hn
  split at hn
  · rename_i x i a r
    obtain ⟨⟨h1, h2, h3, h4⟩, hn⟩ := hn
    obtain ⟨h0, q, hq, hwl⟩ := jx_arr hW (show (w.2.1 a).1 < 4 by omega) tA α
    intro H locs ls hP hS hl
    rw [List.map_cons, List.map_cons, List.map_cons, show jx_cv α (.inr (.inr a)) = .ref (α a) from jx_ref α h0]
    refine va_last hx hb hK hP (jx_D h hW.1 hap) hS q 3 (by rw [hwl h, jx_ent2 h1 h2]) (jx_ty (by decide)) (i := Int32.ofInt i) (jx_vin h3 h4) hdg (fun H1 locs1 hP1 _ hS1 => ?_)
    refine hn H1 locs1 ls ?_ hS1 hl
    rw [← jx_updl h3, jx_wset (h' := hu h a (w32 i) x) hW.1 hq (jx_ent2 h1 h2 _) (fun b hb => jx_ent_ne (hu_ne hb))] at hP1
    exact hP1
  · exact hn.elim
theorem js_alen (X : jx_Ctx p s m args meth c o hd w D tA α) (hdg : decode hd.2.1 pc = .ok (.arraylength, 1)) (hn : jx_a1 st fun a r => (w.2.1 a).1 = 1 ∧ jx_Gd p l e s m args below meth c Q R cn sn hd w D tA α (pc + 1) lv (vi ((w.2.1 a).2.2 : Int) :: r) h) : jx_Gd p l e s m args below meth c Q R cn sn hd w D tA α pc lv st h := by
  obtain ⟨hx, hb, hr, hml, hown, hts, hlk, hK, hap, hE, hW⟩ := X
  unfold jx_a1 at hn
  split at hn
  · rename_i a r
    obtain ⟨h1, hn⟩ := hn
    obtain ⟨h0, q, hq, hwl⟩ := jx_arr hW (show (w.2.1 a).1 < 4 by omega) tA α
    have h2 := hW.2.2.2.2.1 a h1
    intro H locs ls hP hS hl
    have hz := hn H locs ls hP hS hl
    rw [List.map_cons, show jx_cv α (.inr (.inr a)) = .ref (α a) from jx_ref α h0]
    have hwq := hwl h
    rw [jx_ent1 h1 rfl] at hwq
    exact va_alen hx hb hK hP q _ hwq (jx_ty (t := (w.2.1 a).2.1) (by omega)) (v := Int32.ofInt ((w.2.1 a).2.2 : Int)) rfl hdg hz
  · exact hn.elim
theorem js_getfS0 (X : jx_Ctx p s m args meth c o hd w D tA α) {n : Nat} (hdg : decode hd.2.1 pc = .ok (.getfield n, 3)) (hc : decide (o = 16 ∧ n = 9) = true) (hn : jx_a1 st fun a r => jx_lit a ∧ jx_Gd p l e s m args below meth c Q R cn sn hd w D tA α (pc + 3) lv (vr (a + 10) :: r) h) : jx_Gd p l e s m args below meth c Q R cn sn hd w D tA α pc lv st h := by
  obtain ⟨rfl, rfl⟩ := of_decide_eq_true hc
  obtain ⟨hx, hb, hr, hml, hown, hts, hlk, hK, hap, hE, hW⟩ := X
  unfold jx_a1 at hn
  split at hn
  · rename_i a r
    obtain ⟨hlit, hn⟩ := hn
    unfold jx_lit at hlit
    intro H locs ls hP hS hl
    have hz := hn H locs ls hP hS hl
    rw [List.map_cons, jx_ref α (show 0 ≤ a + 10 by omega)] at hz
    rw [List.map_cons, show jx_cv α (.inr (.inr a)) = .ref (α a) from jx_ref α (by omega)]
    have hO : va_OF "java/lang/String" "value" "[B" (.ref (α (a + 10))) (α a) (jx_A w α) s s.heap := by
      have q := (hE.2.1.1 (a - 2000).toNat (by omega)).2.2.1
      dsimp only at q
      rw [show (2000 : Int) + (((a - 2000).toNat : Nat) : Int) = a by omega, show (2010 : Int) + (((a - 2000).toNat : Nat) : Int) = a + 10 by omega] at q
      exact q
    exact vk_getf hx hb hO hS hown (hts _ jx_sf9) (fun _ h9 => h9) hdg hz
  · exact hn.elim
theorem js_getfS1 (X : jx_Ctx p s m args meth c o hd w D tA α) {n : Nat} (hdg : decode hd.2.1 pc = .ok (.getfield n, 3)) (hc : decide (o = 16 ∧ n = 15) = true) (hn : jx_a1 st fun a r => jx_lit a ∧ jx_Gd p l e s m args below meth c Q R cn sn hd w D tA α (pc + 3) lv (vi 0 :: r) h) : jx_Gd p l e s m args below meth c Q R cn sn hd w D tA α pc lv st h := by
  obtain ⟨rfl, rfl⟩ := of_decide_eq_true hc
  obtain ⟨hx, hb, hr, hml, hown, hts, hlk, hK, hap, hE, hW⟩ := X
  unfold jx_a1 at hn
  split at hn
  · rename_i a r
    obtain ⟨hlit, hn⟩ := hn
    unfold jx_lit at hlit
    intro H locs ls hP hS hl
    have hz := hn H locs ls hP hS hl
    rw [List.map_cons, show jx_cv α (vi 0) = .int 0 from rfl] at hz
    rw [List.map_cons, show jx_cv α (.inr (.inr a)) = .ref (α a) from jx_ref α (by omega)]
    have hO : va_OF "java/lang/String" "coder" "B" (.int 0) (α a) (jx_A w α) s s.heap := by
      have q := (hE.2.1.1 (a - 2000).toNat (by omega)).2.1
      dsimp only at q
      rw [show (2000 : Int) + (((a - 2000).toNat : Nat) : Int) = a by omega] at q
      exact q
    exact vk_getf hx hb hO hS hown (hts _ jx_sf15) (fun _ h9 => h9) hdg hz
  · exact hn.elim
theorem js_gets1 (X : jx_Ctx p s m args meth c o hd w D tA α) {n : Nat} (hdg : decode hd.2.1 pc = .ok (.getstatic n, 3)) (hc : decide (o = 16 ∧ n = 38) = true) (hn : jx_Gd p l e s m args below meth c Q R cn sn hd w D tA α (pc + 3) lv (vi 1 :: st) h) : jx_Gd p l e s m args below meth c Q R cn sn hd w D tA α pc lv st h := by
  obtain ⟨rfl, rfl⟩ := of_decide_eq_true hc
  obtain ⟨hx, hb, hr, hml, hown, hts, hlk, hK, hap, hE, hW⟩ := X
  intro H locs ls hP hS hl
  have hz := hn H locs ls hP hS hl
  rw [List.map_cons, show jx_cv α (vi 1) = .int 1 from rfl] at hz
  exact va_gets hx hb hE.2.2.2.1 hS hown (hts _ jx_sf38) (fun _ h9 => h9) hdg hz
theorem js_gets2 (X : jx_Ctx p s m args meth c o hd w D tA α) {n : Nat} (hdg : decode hd.2.1 pc = .ok (.getstatic n, 3)) (hc : decide (o = 16 ∧ n = 1053) = true) (hn : ∀ z, jx_Gd p l e s m args below meth c Q R cn sn hd w D tA α (pc + 3) lv (vr z :: st) h) : jx_Gd p l e s m args below meth c Q R cn sn hd w D tA α pc lv st h := by
  obtain ⟨rfl, rfl⟩ := of_decide_eq_true hc
  obtain ⟨hx, hb, hr, hml, hown, hts, hlk, hK, hap, hE, hW⟩ := X
  intro H locs ls hP hS hl
  obtain ⟨z, hZ⟩ := hE.2.2.2.2
  have hz := hn z H locs ls hP hS hl
  rw [List.map_cons, show jx_cv α (vr z) = va_rf (jx_opt α z) from rfl] at hz
  exact va_gets hx hb hZ hS hown (hts _ jx_sf1053) (fun _ h9 => h9) hdg hz
theorem js_pop (X : jx_Ctx p s m args meth c o hd w D tA α) (hdg : decode hd.2.1 pc = .ok (.pop, 1)) {a : jx_V} {r : List jx_V} (ha : jx_is2 a = false) (hn : jx_Gd p l e s m args below meth c Q R cn sn hd w D tA α (pc + 1) lv r h) : jx_Gd p l e s m args below meth c Q R cn sn hd w D tA α pc lv (a :: r) h := by
  intro H locs ls hP hS hl
  exact lv_pop X.1 X.2.1 hdg (by rw [jx_cat, ha]; rfl) (hn H locs ls hP hS hl)
theorem jx_litT {α : Int → Nat} {A : Nat → Prop} {s : State} {a : Int} (hE : jx_E α A s s.heap) (ha : jx_la a) : va_T .byte (α a) (jx_lens.getD (a - 2010).toNat 0) (fun j => .int ((jx_byts.getD (a - 2010).toNat []).getD j 0)) A s s.heap := by
  unfold jx_la at ha
  have q := (hE.2.1.1 (a - 2010).toNat (by omega)).2.2.2
  dsimp only at q
  rw [show (2010 : Int) + (((a - 2010).toNat : Nat) : Int) = a by omega] at q
  exact q
theorem js_alenS (X : jx_Ctx p s m args meth c o hd w D tA α) (hdg : decode hd.2.1 pc = .ok (.arraylength, 1)) (hn : jx_a1 st fun a r => jx_la a ∧ jx_Gd p l e s m args below meth c Q R cn sn hd w D tA α (pc + 1) lv (vi (jx_ll a) :: r) h) : jx_Gd p l e s m args below meth c Q R cn sn hd w D tA α pc lv st h := by
  obtain ⟨hx, hb, hr, hml, hown, hts, hlk, hK, hap, hE, hW⟩ := X
  unfold jx_a1 at hn
  split at hn
  · rename_i a r
    obtain ⟨ha, hn⟩ := hn
    have hT := jx_litT hE ha
    unfold jx_la at ha
    intro H locs ls hP hS hl
    have hz := hn H locs ls hP hS hl
    rw [List.map_cons, show jx_cv α (.inr (.inr a)) = .ref (α a) from jx_ref α (by omega)]
    exact va_tlen hx hb hT hS (v := Int32.ofInt (jx_ll a)) rfl hdg hz
  · exact hn.elim
theorem js_baldS (X : jx_Ctx p s m args meth c o hd w D tA α) (hdg : decode hd.2.1 pc = .ok (.baload, 1)) (hn : jx_ai st fun a i r => (jx_la a ∧ 0 ≤ w32 i ∧ w32 i < jx_ll a) ∧ jx_Gd p l e s m args below meth c Q R cn sn hd w D tA α (pc + 1) lv (vi (jx_lb a (w32 i)) :: r) h) : jx_Gd p l e s m args below meth c Q R cn sn hd w D tA α pc lv st h := by
  obtain ⟨hx, hb, hr, hml, hown, hts, hlk, hK, hap, hE, hW⟩ := X
  unfold jx_ai at hn
  split at hn
  · rename_i i a r
    obtain ⟨⟨ha, h3, h4⟩, hn⟩ := hn
    have hT := jx_litT hE ha
    unfold jx_la at ha
    intro H locs ls hP hS hl
    have hz := hn H locs ls hP hS hl
    rw [List.map_cons, List.map_cons, show jx_cv α (.inr (.inr a)) = .ref (α a) from jx_ref α (by omega)]
    have e : (Int32.ofInt i).toNatClampNeg = (w32 i).toNat := by have := jx_ix i h3; omega
    refine va_tb hx hb hT hS (i := Int32.ofInt i) (v := jx_cv α (vi (jx_lb a (w32 i)))) (jx_vin h3 h4) ?_ hdg hz
    show Value.int _ = Value.int (Int32.ofInt (jx_lb a (w32 i)))
    unfold jx_lb
    rw [Int32.ofInt_toInt, e]
  · exact hn.elim
theorem js_tsw (X : jx_Ctx p s m args meth c o hd w D tA α) {df lo hi : Int} {offs : Array Int} {len : Nat} (hdg : decode hd.2.1 pc = .ok (.tableswitch df lo hi offs, len)) (ho : 0 ≤ (pc : Int) + df) (ho2 : ∀ f ∈ offs.toList, 0 ≤ (pc : Int) + f) (hlen : hi + 1 = lo + (offs.toList.length : Int))
    (hn : jx_i1 st fun x r => (w32 x < lo ∨ hi < w32 x → jx_Gd p l e s m args below meth c Q R cn sn hd w D tA α (jx_tg pc df) lv r h) ∧ jx_tsw x (fun off => jx_Gd p l e s m args below meth c Q R cn sn hd w D tA α (jx_tg pc off) lv r h) lo offs.toList) : jx_Gd p l e s m args below meth c Q R cn sn hd w D tA α pc lv st h := by
  unfold jx_i1 at hn
  split at hn
  · rename_i x r
    obtain ⟨hn1, hn2⟩ := hn
    intro H locs ls hP hS hl
    by_cases hr : w32 x < lo ∨ hi < w32 x
    · exact lv_tableOut X.1 X.2.1 hdg (by rw [w32_eq]; exact hr) (jx_tg_eq ho) (hn1 hr H locs ls hP hS hl)
    · have key : ∀ (ll : List Int) (k : Int) (j : Nat) (off : Int), jx_tsw x (fun off => jx_Gd p l e s m args below meth c Q R cn sn hd w D tA α (jx_tg pc off) lv r h) k ll → w32 x = k + j → ll[j]? = some off → jx_Gd p l e s m args below meth c Q R cn sn hd w D tA α (jx_tg pc off) lv r h := by
        intro ll
        induction ll with
        | nil => intro k j off _ _ hj; cases hj
        | cons a t ih =>
          intro k j off hs hk hj
          cases j with
          | zero => cases hj; exact hs.1 (by omega)
          | succ j => exact ih (k + 1) j off hs.2 (by omega) (by simpa using hj)
      have hj : (w32 x - lo).toNat < offs.toList.length := by omega
      have hget : offs.toList[(w32 x - lo).toNat]? = some (offs.toList[(w32 x - lo).toNat]) := List.getElem?_eq_getElem hj
      refine lv_tableIn X.1 X.2.1 hdg (by rw [w32_eq]; omega) (by rw [w32_eq]; omega) (off := offs.toList[(w32 x - lo).toNat]) (by rw [w32_eq, ← Array.getElem?_toList]; exact hget) (jx_tg_eq (ho2 _ (List.getElem_mem hj))) ?_
      exact key _ lo _ _ hn2 (by omega) hget H locs ls hP hS hl
  · exact hn.elim
theorem js_lsw (X : jx_Ctx p s m args meth c o hd w D tA α) {df : Int} {ps : Array (Int × Int)} {len : Nat} (hdg : decode hd.2.1 pc = .ok (.lookupswitch df ps, len)) (ho : 0 ≤ (pc : Int) + df) (ho2 : ∀ f ∈ ps.toList, 0 ≤ (pc : Int) + f.2) (hord : (ps.toList.zip (ps.toList.drop 1)).all (fun (a, next) => a.1 < next.1) = true)
    (hn : jx_i1 st fun x r => jx_lsw x (fun off => jx_Gd p l e s m args below meth c Q R cn sn hd w D tA α (jx_tg pc off) lv r h) df ps.toList) : jx_Gd p l e s m args below meth c Q R cn sn hd w D tA α pc lv st h := by
  unfold jx_i1 at hn
  split at hn
  · rename_i x r
    intro H locs ls hP hS hl
    have key : ∀ (ll : List (Int × Int)), (∀ f ∈ ll, 0 ≤ (pc : Int) + f.2) → jx_lsw x (fun off => jx_Gd p l e s m args below meth c Q R cn sn hd w D tA α (jx_tg pc off) lv r h) df ll → 0 ≤ (pc : Int) + Op.lookupswitch.offset ll df (w32 x) ∧ jx_Gd p l e s m args below meth c Q R cn sn hd w D tA α (jx_tg pc (Op.lookupswitch.offset ll df (w32 x))) lv r h := by
      intro ll
      induction ll with
      | nil => intro _ hs; exact ⟨ho, hs⟩
      | cons a t ih =>
        intro hf hs
        rw [Op.lookupswitch.offset_cons]
        by_cases hx : a.1 = w32 x
        · rw [if_pos hx]; exact ⟨hf a List.mem_cons_self, hs.1 hx.symm⟩
        · rw [if_neg hx]; exact ih (fun f hfm => hf f (List.mem_cons_of_mem _ hfm)) (hs.2 (fun q => hx q.symm))
    obtain ⟨k1, k2⟩ := key _ ho2 hn
    exact lv_lookup X.1 X.2.1 hdg hord (by rw [w32_eq]) (jx_tg_eq k1) (k2 H locs ls hP hS hl)
  · exact hn.elim
theorem jx_cl_mem {n : Nat} {z : Int} (h : jx_CL.any (fun r => decide (r.1 = o ∧ r.2.1 = n ∧ r.2.2.1 = z)) = true) : Cond.constant (jx_Rn o) n (Int32.ofInt z) ∈ jx_T := by
  obtain ⟨r, hr, h1⟩ := List.any_eq_true.mp h
  obtain ⟨rfl, rfl, rfl⟩ := of_decide_eq_true h1
  exact jx_mem r.2.2.2 (List.all_eq_true.mp jx_CL_ok r hr)
theorem jx_cll_mem {n : Nat} {z : Int} (h : jx_CLL.any (fun r => decide (r.1 = o ∧ r.2.1 = n ∧ r.2.2.1 = z)) = true) : Cond.constantLong (jx_Rn o) n (Int64.ofInt z) ∈ jx_T := by
  obtain ⟨r, hr, h1⟩ := List.any_eq_true.mp h
  obtain ⟨rfl, rfl, rfl⟩ := of_decide_eq_true h1
  exact jx_mem r.2.2.2 (List.all_eq_true.mp jx_CLL_ok r hr)
theorem jx_ml_mem {n : Nat} {y : MethodName} (h : jx_ML.any (fun r => decide (r.1 = o ∧ r.2.1 = n ∧ r.2.2.1 = y)) = true) : Cond.methodLink (jx_Rn o) n y ∈ jx_T := by
  obtain ⟨r, hr, h1⟩ := List.any_eq_true.mp h
  obtain ⟨rfl, rfl, rfl⟩ := of_decide_eq_true h1
  exact jx_mem r.2.2.2 (List.all_eq_true.mp jx_ML_ok r hr)
theorem jx_jl_mem {n k : Nat} (h : jx_JL.any (fun r => decide (r.1 = o ∧ r.2.1 = n ∧ r.2.2.1 = k)) = true) : Cond.methodLink (jx_Rn o) n (jx_jn k) ∈ jx_T := by
  obtain ⟨r, hr, h1⟩ := List.any_eq_true.mp h
  obtain ⟨rfl, rfl, rfl⟩ := of_decide_eq_true h1
  exact jx_mem r.2.2.2 (List.all_eq_true.mp jx_JL_ok r hr)
theorem jx_fl_mem {n ci k : Nat} (h : jx_FL.any (fun r => decide (r.1 = o ∧ r.2.1 = n ∧ r.2.2.1 = ci ∧ r.2.2.2.1 = k)) = true) : ∃ r, vwCl[ci]? = some r ∧ k < r.2.2 ∧ Cond.fieldLink (jx_Rn o) n (r.2.1 k).1 (r.2.1 k).2.1 (r.2.1 k).2.2.1 ∈ jx_T := by
  obtain ⟨r, hr, h1⟩ := List.any_eq_true.mp h
  obtain ⟨rfl, rfl, rfl, rfl⟩ := of_decide_eq_true h1
  have h2 := List.all_eq_true.mp jx_FL_ok r hr
  unfold jx_FLc at h2
  split at h2
  · rename_i q hq
    simp only [Bool.and_eq_true] at h2
    exact ⟨q, hq, of_decide_eq_true h2.1, jx_mem r.2.2.2.2 (by simp only [Bool.and_eq_true]; exact h2.2)⟩
  · cases h2
theorem js_ldc (X : jx_Ctx p s m args meth c o hd w D tA α) {n : Nat} {z : Int} (hdg : decode hd.2.1 pc = .ok (.ldc n, 2)) (hc : jx_CL.any (fun r => decide (r.1 = o ∧ r.2.1 = n ∧ r.2.2.1 = z)) = true) (hn : jx_Gd p l e s m args below meth c Q R cn sn hd w D tA α (pc + 2) lv (vi z :: st) h) : jx_Gd p l e s m args below meth c Q R cn sn hd w D tA α pc lv st h := by
  intro H locs ls hP hS hl
  exact lv_ldc X.1 X.2.1 X.2.2.2.2.1 (X.2.2.2.2.2.1 _ (jx_cl_mem hc)) hdg (hn H locs ls hP hS hl)
theorem js_ldcs (X : jx_Ctx p s m args meth c o hd w D tA α) {n : Nat} {z : Int} (hdg : decode hd.2.1 pc = .ok (.ldc n, 2)) (hc : jx_SL.any (fun r => decide (r.1 = o ∧ r.2.1 = n ∧ r.2.2.1 = z)) = true) (hn : jx_Gd p l e s m args below meth c Q R cn sn hd w D tA α (pc + 2) lv (vr z :: st) h) : jx_Gd p l e s m args below meth c Q R cn sn hd w D tA α pc lv st h := by
  intro H locs ls hP hS hl
  obtain ⟨q, hq, h1⟩ := List.any_eq_true.mp hc
  obtain ⟨rfl, rfl, rfl⟩ := of_decide_eq_true h1
  have hR := X.2.2.2.2.2.2.2.2.2.1.2.2.1 q hq
  have h0 : 0 ≤ q.2.2.1 := by
    simp only [jx_SL, List.mem_cons, List.not_mem_nil, or_false] at hq
    rcases hq with rfl | rfl | rfl <;> decide
  have hz := hn H locs ls hP hS hl
  rw [List.map_cons, jx_ref α h0] at hz
  exact va_ldcS X.1 X.2.1 X.2.2.2.2.1 hR hdg hz
theorem js_ldcw (X : jx_Ctx p s m args meth c o hd w D tA α) {n : Nat} {z : Int} (hdg : decode hd.2.1 pc = .ok (.ldc_w n, 3)) (hc : jx_CL.any (fun r => decide (r.1 = o ∧ r.2.1 = n ∧ r.2.2.1 = z)) = true) (hn : jx_Gd p l e s m args below meth c Q R cn sn hd w D tA α (pc + 3) lv (vi z :: st) h) : jx_Gd p l e s m args below meth c Q R cn sn hd w D tA α pc lv st h := by
  intro H locs ls hP hS hl
  exact lv_ldcw X.1 X.2.1 X.2.2.2.2.1 (X.2.2.2.2.2.1 _ (jx_cl_mem hc)) hdg (hn H locs ls hP hS hl)
theorem js_ldc2 (X : jx_Ctx p s m args meth c o hd w D tA α) {n : Nat} {z : Int} (hdg : decode hd.2.1 pc = .ok (.ldc2_w n, 3)) (hc : jx_CLL.any (fun r => decide (r.1 = o ∧ r.2.1 = n ∧ r.2.2.1 = z)) = true) (hn : jx_Gd p l e s m args below meth c Q R cn sn hd w D tA α (pc + 3) lv (vl z :: st) h) : jx_Gd p l e s m args below meth c Q R cn sn hd w D tA α pc lv st h := by
  intro H locs ls hP hS hl
  exact lv_ldc2 X.1 X.2.1 X.2.2.2.2.1 (X.2.2.2.2.2.1 _ (jx_cll_mem hc)) hdg (hn H locs ls hP hS hl)
end JA
