/-! growing worlds: what makes cells -/
section JBN
variable {p : Program} {l : Launch} {e : Env} {s : State} {m : MethodId} {args : Array Value} {below : List Frame} {meth : Method} {c : Code} {Q : State → Prop}
variable {o d cn sn : Nat} {R : Room} {hd : jx_Hd} {sg : List jx_Sg} {D : va_G} {tA : Nat → ClassId} {α0 : Int → Nat} {P0 P : Int → Bool} {pc : Nat} {lv : jx_L} {st : List jx_V} {h : jx_H}
/-- no reference to a lies about -/
def NoV (a : Int) (lv : jx_L) (st : List jx_V) : Prop := (∀ q ∈ lv, ∀ z : Int, q.2 = vr z → 0 ≤ z → z ≠ a) ∧ ∀ v ∈ st, ∀ z : Int, v = vr z → 0 ≤ z → z ≠ a
theorem cv_al {α α' : Int → Nat} {v : jx_V} (h : ∀ z : Int, v = vr z → 0 ≤ z → α' z = α z) : jx_cv α' v = jx_cv α v := by
  match v, h with
  | .inl z, _ => rfl
  | .inr (.inl z), _ => rfl
  | .inr (.inr z), h =>
    show va_rf (jx_opt α' z) = va_rf (jx_opt α z)
    unfold jx_opt
    by_cases hz : z < 0
    · rw [if_pos hz, if_pos hz]
    · rw [if_neg hz, if_neg hz, h z rfl (by omega)]
theorem cl_al {α α' : Int → Nat} {lv : jx_L} (h : ∀ q ∈ lv, ∀ z : Int, q.2 = vr z → 0 ≤ z → α' z = α z) : jx_cl α' lv = jx_cl α lv := by
  unfold jx_cl
  exact List.map_congr_left fun q hq => by rw [cv_al (h q hq)]
theorem st_al {α α' : Int → Nat} {st : List jx_V} (h : ∀ v ∈ st, ∀ z : Int, v = vr z → 0 ≤ z → α' z = α z) : st.map (jx_cv α') = st.map (jx_cv α) := List.map_congr_left fun v hv => cv_al (h v hv)
theorem S_new {s : State} {sg : List jx_Sg} {P : Int → Bool} {α : Int → Nat} {H H1 : Heap} {locs : List Loc} {a : Int} {D : va_G} {tA : Nat → ClassId} {h : jx_H} (hP : va_P D vwCl (jx_wl tA α (wP sg P) h) H) (hS : va_S (jx_A (wP sg P) α) s.heap H locs) (ha : ¬ P a = true) (hsz : H.size ≤ H1.size) (ho : ∀ q, q < H.size → H1[q]? = H[q]?) : va_S (jx_A (wP sg (ad P a)) (fun k => if k = a then H.size else α k)) s.heap H1 locs := by
  have hin : ∀ q, jx_A (wP sg P) α q → jx_A (wP sg (ad P a)) (fun k => if k = a then H.size else α k) q := fun q hq => by
    obtain ⟨k, hk, rfl⟩ := hq
    obtain ⟨k1, k2⟩ := wP_mem.mp hk
    refine ⟨k, wP_mem.mpr ⟨k1, by show (P k || decide (k = a)) = true; rw [k2]; rfl⟩, ?_⟩
    show α k = if k = a then H.size else α k
    rw [if_neg (fun z => ha (by rw [← z]; exact k2))]
  exact ⟨Nat.le_trans hS.1 hsz, fun q q1 q2 => (ho q (Nat.lt_of_lt_of_le q1 hS.1)).trans (hS.2.1 q q1 fun z => q2 (hin q z)), fun q hq => hin _ (hS.2.2 q hq)⟩
/-- one cell more: what is left to show when the machine has made it -/
theorem jb_made {α : Int → Nat} {a : Int} {H H1 : Heap} {locs : List Loc} {ls : Array Slot} {cn2 sn2 pc2 : Nat} (hal : jb_al s sg α0 P0 P α) (hP : va_P D vwCl (jx_wl tA α (wP sg P) h) H) (hS : va_S (jx_A (wP sg P) α) s.heap H locs) (hl : lv_has ls hd.2.2.1 (jx_cl α lv)) (ha : ¬ P a = true) (h0 : 0 ≤ a ∧ a < 1000) (hr : RefIn sg P h) (hv : NoV a lv st) (hsz : H1.size = H.size + 1) (ho : ∀ q, q < H.size → H1[q]? = H[q]?) (hn : va_at D vwCl (H.size, jx_ent tA (fun k => if k = a then H.size else α k) (wP sg (ad P a)) h a) H1) (kk : jb_G p l e s m args below meth c Q R hd sg D tA α0 P0 (ad P a) cn2 sn2 pc2 lv (vr a :: st) h) : W p l e R s m args below meth c H1 locs cn2 sn2 Q (F0 m pc2 ls (.ref H.size :: st.map (jx_cv α))) := by
  have k1 := kk.a _ (al_new hal hP hS.1 ha h0.2) H1 locs ls (wl_new hP ho ha hr h0.1 hn) (S_new hP hS ha (by omega) ho) (by
    rw [cl_al (α := α) fun q hq z e1 e2 => if_neg (hv.1 q hq z e1 e2)]
    exact hl)
  rw [List.map_cons, jx_ref _ h0.1, st_al (α := α) fun v hv1 z e1 e2 => if_neg (hv.2 v hv1 z e1 e2)] at k1
  have k1 : W p l e R s m args below meth c H1 locs cn2 sn2 Q (F0 m pc2 ls (.ref (if a = a then H.size else α a) :: st.map (jx_cv α))) := k1
  rw [if_pos rfl] at k1
  exact k1
theorem dfl_v {α : Int → Nat} {ty : FieldType} {z : Int} (ht : ¬ jx_tag ty = 0) (hz : (jx_tag ty = 3 → z = -1) ∧ (¬ jx_tag ty = 3 → z = 0)) : defaultValue ty = (match jx_tag ty with
  | 2 => .long (Int64.ofInt z)
  | 3 => va_rf (jx_opt α z)
  | _ => .int (Int32.ofInt z)) := by
  cases ty with
  | int => rw [hz.2 (by decide)]; rfl
  | long => rw [hz.2 (by decide)]; rfl
  | boolean => rw [hz.2 (by decide)]; rfl
  | object n => rw [hz.1 rfl]; rfl
  | array n => rw [hz.1 rfl]; rfl
  | byte => exact absurd rfl ht
  | char => exact absurd rfl ht
  | short => exact absurd rfl ht
  | float => exact absurd rfl ht
  | double => exact absurd rfl ht
theorem jb_new (X : jb_Ctx p s m args meth c o hd sg D tA α0 P0) {n ci : Nat} {a : Int} {r : vw_C} (hdg : decode hd.2.1 pc = .ok (.new n, 3)) (hc : vwCl[ci]? = some r) (hw : Cond.classLink (jx_Rn o) n r.1 ∈ jx_T ∧ Cond.instantiable r.1 r.2.2 ∈ jx_T ∧ Cond.initialized r.1 ∈ jx_T) (hk : jx_kd sg a = (0, ci, r.2.2)) (htg : ∀ j, j < r.2.2 → ¬ jx_tag (jx_ft ci j) = 0) (ha : ¬ P a = true) (h0 : 0 ≤ a ∧ a < 1000) (hnew : NewRow sg h a) (hr : RefIn sg P h) (hv : NoV a lv st) (hcn : cn + 1 ≤ R.cells) (hsn : sn + r.2.2 ≤ R.slots)
    (kk : jb_G p l e s m args below meth c Q R hd sg D tA α0 P0 (ad P a) (cn + 1) (sn + r.2.2) (pc + 3) lv (vr a :: st) h) : jb_G p l e s m args below meth c Q R hd sg D tA α0 P0 P cn sn pc lv st h := by
  refine ⟨(), fun α hal H locs ls hP hS hl => ?_⟩
  have XX := X
  obtain ⟨hx, hb, hret, hml, hown, hts, hlk, hK, hE, hsg, -, -⟩ := X
  obtain ⟨hin, hty, hnm⟩ := jx_cls ci r hc
  have hKn := hK.1 ci _ hc
  refine W.newcK hx hb hown (hts _ hw.1) (hts _ hw.2.1) (hts _ hw.2.2) rfl hdg hcn hsn hKn.2.1 rfl fun H1 kC hkC e1 z1 o1 => ?_
  refine jb_made hal hP hS hl ha h0 hr hv z1 o1 ?_ kk
  have hka : (wP sg (ad P a)).2.1 a = (0, ci, r.2.2) := by
    rw [wP_kd (by show (P a || decide (a = a)) = true; rw [decide_eq_true rfl, Bool.or_true])]
    exact hk
  unfold jx_ent
  rw [hka]
  refine ⟨r, hc, (u_born (jx_ft ci) hts hin hKn hkC e1 hty).to fun j hj => ?_⟩
  unfold vp_V
  rw [List.getD_eq_getElem?_getD, List.getElem?_map, List.getElem?_range hj]
  have hz := hnew j
  unfold rfC at hz
  rw [hk] at hz
  have d := dfl_v (α := fun k => if k = a then H.size else α k) (z := h a (j : Int)) (htg j hj) hz
  show defaultValue (jx_ft ci j) = jx_fvl _ _ h a (jx_ft ci j) j
  rw [d]
  rfl
/-- a new array of numbers -/
theorem jb_newa (X : jb_Ctx p s m args meth c o hd sg D tA α0 P0) {at9 : ArrayType} {t N : Nat} {i a : Int} (hdg : decode hd.2.1 pc = .ok (.newarray at9, 2)) (hty : newarray.typeOf at9 = jx_et t) (ht9 : t < 3) (hdf : defaultValue (jx_et t) = .int 0) (hw : Cond.arrayClass (newarray.typeOf at9) ∈ jx_T) (hi : w32 i = N) (hN : (N : Int) ≤ 1000000 ∧ componentBytes (jx_et t) ≤ 4) (hk : jx_kd sg a = (1, t, N)) (ha : ¬ P a = true) (h0 : 0 ≤ a ∧ a < 1000) (hnew : NewRow sg h a) (hr : RefIn sg P h) (hv : NoV a lv st) (hcn : cn + 1 ≤ R.cells) (hsn : sn + N ≤ R.slots)
    (kk : jb_G p l e s m args below meth c Q R hd sg D tA α0 P0 (ad P a) (cn + 1) (sn + N) (pc + 2) lv (vr a :: st) h) : jb_G p l e s m args below meth c Q R hd sg D tA α0 P0 P cn sn pc lv (vi i :: st) h := by
  refine ⟨(), fun α hal H locs ls hP hS hl => ?_⟩
  obtain ⟨hx, hb, hret, hml, hown, hts, hlk, hK, hE, hsg, -, -⟩ := X
  have hneg : ¬ Int32.ofInt i < 0 := fun q => by have := (i32_lt0 i).mp q; omega
  have hclamp : (Int32.ofInt i).toNatClampNeg = N := by have := jx_ix i (by omega); omega
  refine va_newaK (atype := at9) hx hb (hts _ hw) rfl hdg rfl hneg hclamp (by rw [hty]; have := Nat.mul_le_mul (show N ≤ 1000000 by omega) hN.2; omega) hcn hsn rfl fun H1 cA e1 z1 o1 hAr hNm => ?_
  have hKt := (hK.2 t (tA t, jx_et t) (jx_ty (by omega))).2
  have hcA : cA = tA t := by
    rw [hty] at hNm
    have e2 : s.vm.findClass ("[" ++ (jx_et t).toString) = some (tA t) := by
      match t, ht9, hKt with
      | 0, _, q => exact q
      | 1, _, q => exact q
      | 2, _, q => exact q
    rw [e2] at hNm
    exact (Option.some.inj hNm).symm
  refine jb_made hal hP hS hl ha h0 hr hv z1 o1 ?_ kk
  have hka : (wP sg (ad P a)).2.1 a = (1, t, N) := by
    rw [wP_kd (by show (P a || decide (a = a)) = true; rw [decide_eq_true rfl, Bool.or_true])]
    exact hk
  unfold jx_ent
  rw [hka]
  show H1[H.size]? = some (vp_cell (tA t) (N, .inl fun j => Int32.ofInt (h a (j : Int))))
  rw [e1, vp_cell_i, hcA, hty, hdf]
  have ef : (fun _ : Nat => Value.int 0) = fun j : Nat => Value.int (Int32.ofInt (h a (j : Int))) := funext fun j => by
    have hz := (hnew j).2 (by unfold rfC; rw [hk]; exact fun q => q)
    rw [hz]
    rfl
  rw [ef]
theorem jb_newl (X : jb_Ctx p s m args meth c o hd sg D tA α0 P0) {N : Nat} {i a : Int} (hdg : decode hd.2.1 pc = .ok (.newarray .long, 2)) (hw : Cond.arrayClass .long ∈ jx_T) (hi : w32 i = N) (hN : (N : Int) ≤ 100000) (hk : jx_kd sg a = (2, 3, N)) (ha : ¬ P a = true) (h0 : 0 ≤ a ∧ a < 1000) (hnew : NewRow sg h a) (hr : RefIn sg P h) (hv : NoV a lv st) (hcn : cn + 1 ≤ R.cells) (hsn : sn + N ≤ R.slots)
    (kk : jb_G p l e s m args below meth c Q R hd sg D tA α0 P0 (ad P a) (cn + 1) (sn + N) (pc + 2) lv (vr a :: st) h) : jb_G p l e s m args below meth c Q R hd sg D tA α0 P0 P cn sn pc lv (vi i :: st) h := by
  refine ⟨(), fun α hal H locs ls hP hS hl => ?_⟩
  obtain ⟨hx, hb, hret, hml, hown, hts, hlk, hK, hE, hsg, -, -⟩ := X
  have hneg : ¬ Int32.ofInt i < 0 := fun q => by have := (i32_lt0 i).mp q; omega
  have hclamp : (Int32.ofInt i).toNatClampNeg = N := by have := jx_ix i (by omega); omega
  refine va_newaK (atype := .long) hx hb (hts _ hw) rfl hdg rfl hneg hclamp (by show N * 8 ≤ 536870912; omega) hcn hsn rfl fun H1 cA e1 z1 o1 hAr hNm => ?_
  have hKt : s.vm.findClass ("[" ++ (jx_et 3).toString) = some (tA 3) := (hK.2 3 (tA 3, jx_et 3) (jx_ty (by omega))).2
  have hcA : cA = tA 3 := (Option.some.inj (hKt.symm.trans hNm)).symm
  refine jb_made hal hP hS hl ha h0 hr hv z1 o1 ?_ kk
  have hka : (wP sg (ad P a)).2.1 a = (2, 3, N) := by
    rw [wP_kd (by show (P a || decide (a = a)) = true; rw [decide_eq_true rfl, Bool.or_true])]
    exact hk
  unfold jx_ent
  rw [hka]
  show H1[H.size]? = some (vp_cell (tA 3) (N, .inr (.inl fun j => Int64.ofInt (h a (j : Int)))))
  rw [e1, hcA]
  show some (arrV (tA 3) N fun _ => Value.long 0) = some (arrV (tA 3) N fun j => Value.long (Int64.ofInt (h a (j : Int))))
  have ef : (fun _ : Nat => Value.long 0) = fun j : Nat => Value.long (Int64.ofInt (h a (j : Int))) := funext fun j => by
    have hz := (hnew j).2 (by unfold rfC; rw [hk]; exact fun q => q)
    rw [hz]
    rfl
  rw [ef]
/-- a new array of references -/
theorem jb_newq (X : jb_Ctx p s m args meth c o hd sg D tA α0 P0) {n t N : Nat} {C : String} {i a : Int} (hdg : decode hd.2.1 pc = .ok (.anewarray n, 3)) (hty : jx_et t = .object C) (ht9 : t < 9) (hw : Cond.classLink (jx_Rn o) n C ∈ jx_T ∧ (C = RX1 ∨ C = RX2 ∨ C = RX3 ∨ C = RX9)) (hi : w32 i = N) (hN : (N : Int) ≤ 100000) (hk : jx_kd sg a = (3, t, N)) (ha : ¬ P a = true) (h0 : 0 ≤ a ∧ a < 1000) (hnew : NewRow sg h a) (hr : RefIn sg P h) (hv : NoV a lv st) (hcn : cn + 1 ≤ R.cells) (hsn : sn + N ≤ R.slots)
    (kk : jb_G p l e s m args below meth c Q R hd sg D tA α0 P0 (ad P a) (cn + 1) (sn + N) (pc + 3) lv (vr a :: st) h) : jb_G p l e s m args below meth c Q R hd sg D tA α0 P0 P cn sn pc lv (vi i :: st) h := by
  refine ⟨(), fun α hal H locs ls hP hS hl => ?_⟩
  obtain ⟨hx, hb, hret, hml, hown, hts, hlk, hK, hE, hsg, -, -⟩ := X
  have hneg : ¬ Int32.ofInt i < 0 := fun q => by have := (i32_lt0 i).mp q; omega
  have hclamp : (Int32.ofInt i).toNatClampNeg = N := by have := jx_ix i (by omega); omega
  refine W.anew hx hb hown (hts _ hw.1) (va_AO.use (hE.1.1 C hw.2)) rfl hdg rfl hneg (by rw [hclamp]; omega) hcn (by rw [hclamp]; exact hsn) fun cA kA comp f1 f2 f3 f4 => ?_
  rw [hclamp]
  generalize hH1 : H.push ({ cls := cA, slots := Array.replicate N .null, vm := .none } : Cell) = H1
  have z1 : H1.size = H.size + 1 := by rw [← hH1, Array.size_push]
  have e1 : H1[H.size]? = some (arrV cA N (fun _ => .null)) := by rw [← hH1, Array.getElem?_push_size, ← arrV_new]
  have o1 : ∀ q : Nat, q < H.size → H1[q]? = H[q]? := fun q hq => by rw [← hH1, Array.getElem?_push, if_neg (Nat.ne_of_lt hq)]
  have hKt := (hK.2 t (tA t, jx_et t) (jx_ty ht9)).2
  rw [hty] at hKt
  obtain ⟨kA2, comp2, -, -, -, hfc⟩ := hKt
  have hcA : cA = tA t := (Option.some.inj (hfc.symm.trans f1)).symm
  refine jb_made hal hP hS hl ha h0 hr hv z1 o1 ?_ kk
  have hka : (wP sg (ad P a)).2.1 a = (3, t, N) := by
    rw [wP_kd (by show (P a || decide (a = a)) = true; rw [decide_eq_true rfl, Bool.or_true])]
    exact hk
  unfold jx_ent
  rw [hka]
  show H1[H.size]? = some (vp_cell (tA t) (N, .inr (.inr (.inr (.inr fun j => jx_opt _ (h a (j : Int)))))))
  rw [e1, vp_cell_q, hcA]
  have ef : (fun _ : Nat => Value.null) = fun j : Nat => va_rf (jx_opt (fun k => if k = a then H.size else α k) (h a (j : Int))) := funext fun j => by
    have hz := (hnew j).1 (by unfold rfC; rw [hk]; exact True.intro)
    rw [hz]
    rfl
  rw [ef]
/-- Object's own -/
theorem jb_obj (X : jb_Ctx p s m args meth c o hd sg D tA α0 P0) {n : Nat} {a : Int} (hdg : decode hd.2.1 pc = .ok (.invokespecial n, 3)) (hw : Cond.methodLink (jx_Rn o) n Lib.objectInit ∈ jx_T ∧ Cond.instanceMethod Lib.objectInit ∈ jx_T ∧ Cond.code Lib.objectInit ⟨#[0xb1]⟩ 1 none ∈ jx_T) (h0 : 0 ≤ a) (hst : jx_w st ≤ 8) (hR : 1 ≤ R.frames ∧ 100 ≤ R.locals)
    (kk : jb_G p l e s m args below meth c Q R hd sg D tA α0 P0 P cn sn (pc + 3) lv st h) : jb_G p l e s m args below meth c Q R hd sg D tA α0 P0 P cn sn pc lv (vr a :: st) h := by
  refine ⟨(), fun α hal H locs ls hP hS hl => ?_⟩
  obtain ⟨hx, hb, hret, hml, hown, hts, hlk, hK, hE, hsg, -, -⟩ := X
  have k1 := kk.a α hal H locs ls hP hS hl
  rw [List.map_cons, jx_ref _ h0]
  exact W.objInit hx hb hown (hts _ hw.1) (hts _ hw.2.1) (hts _ hw.2.2) rfl (hl.1.trans hml.symm) rfl hdg hR.1 (by
    rw [jx_w_cat]
    show 2 * 0 + _ + 12 ≤ _
    omega) k1
end JBN
