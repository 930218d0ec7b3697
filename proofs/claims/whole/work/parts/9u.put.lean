/-! growing worlds: final fields, rows of references, calls of constructors, ends -/
theorem Stand_keep {p : Program} {l : Launch} {e : Env} {R : Room} {s : State} {m : MethodId} {args : Array Value} {below : List Frame} {meth : Method} {c : Code} {T : State} {l1 l2 : List Loc} {cells slots : Nat} (X : Stand p l e R s m args below meth c T l1 cells slots) (h : ∀ y ∈ l1, y.base < s.heap.size → y ∈ l2) : Stand p l e R s m args below meth c T l2 cells slots :=
  { X with same := X.same.weaken (fun y hy hlt => h y hy hlt) (Nat.le_refl _) (Nat.le_refl _) }
theorem W_keep {p : Program} {l : Launch} {e : Env} {R : Room} {s : State} {m : MethodId} {args : Array Value} {below : List Frame} {meth : Method} {c : Code} {Q : State → Prop} {H : Heap} {l1 l2 : List Loc} {cells slots : Nat} {g : JFrame} (h : ∀ y ∈ l1, y.base < s.heap.size → y ∈ l2) (k : W p l e R s m args below meth c H l2 cells slots Q g) : W p l e R s m args below meth c H l1 cells slots Q g := fun T hT X => k T hT (Stand_keep X h)
/-- what a constructor's head must be -/
def jb_hok (hd : jx_Hd) : Prop := .code hd.1 hd.2.1 hd.2.2.1 none ∈ jx_T ∧ .initialized hd.1.cls ∈ jx_T ∧ .instanceMethod hd.1 ∈ jx_T ∧ (hd.1.cls ≠ "java/lang/invoke/MethodHandle" ∧ hd.1.cls ≠ "java/lang/invoke/VarHandle") ∧ plainName hd.1.cls = true ∧ hd.2.2.2.1 = none ∧ hd.1.name = "<init>" ∧ (parseMethodDescriptor hd.1.desc).map (fun d => d.parameters.length) = some 0 ∧ hd.2.2.1 ≤ 81
def jb_Qc (sg : List jx_Sg) (D : va_G) (tA : Nat → ClassId) (α0 : Int → Nat) (P P' : Int → Bool) (K : jx_H → Prop) : Array Value → State → Outcome → State → Prop := fun _ st oc t =>
  (oc = .returned none ∧ ∃ α h', K h' ∧ jb_al st sg α0 P P' α ∧ va_P D vwCl (jx_wl tA α (wP sg P') h') t.heap) ∧ va_F (jx_A (wP sg P) α0) st t
/-- a constructor's contract, at a in the world of P, that makes the world of P' -/
def jb_Cal (d : Nat) (hd : jx_Hd) (sg : List jx_Sg) (P : Int → Bool) (a : Int) (h : jx_H) (P' : Int → Bool) (K : jx_H → Prop) (mc ms : Nat) : Prop :=
  jb_hok hd ∧ ∀ (l : Launch) (D : va_G) (tA : Nat → ClassId) (α0 : Int → Nat) (z : Nat), Met l hd.1 (jx_ws hd) { frames := d, cells := mc, slots := ms, locals := 100 * d } (va_Pc [.ref (α0 a)] fun U => U.heap.size = z ∧ va_P D vwCl (jx_wl tA α0 (wP sg P) h) U.heap ∧ va_K D vwCl (jx_tys tA) U ∧ jx_apart (wP sg P) α0 ∧ jb_E α0 (fun q => jx_A (wP sg P) α0 q ∨ U.heap.size ≤ q) U U.heap) (jb_Qc sg D tA α0 P P' K) mc ms (fun q => jx_A (wP sg P) α0 q ∨ z ≤ q)
section JBP
variable {p : Program} {l : Launch} {e : Env} {s : State} {m : MethodId} {args : Array Value} {below : List Frame} {meth : Method} {c : Code} {Q : State → Prop}
variable {o d cn sn : Nat} {R : Room} {hd : jx_Hd} {sg : List jx_Sg} {D : va_G} {tA : Nat → ClassId} {α0 : Int → Nat} {P0 P : Int → Bool} {pc : Nat} {lv : jx_L} {st : List jx_V} {h : jx_H}
theorem jb_putF (X : jb_Ctx p s m args meth c o hd sg D tA α0 P0) {n ci k : Nat} {a v : Int} {r0 : vw_C} (hdg : decode hd.2.1 pc = .ok (.putfield n, 3)) (hc : vwCl[ci]? = some r0) (hkk : k < r0.2.2) (hlink : Cond.fieldLink (jx_Rn o) n (r0.2.1 k).1 (r0.2.1 k).2.1 (r0.2.1 k).2.2.1 ∈ jx_T) (hfin : (r0.2.1 k).2.2.2 = true) (hdecl : (r0.2.1 k).1 = jx_Rn o) (ht : jx_tag (jx_ft ci k) = 3) (hpa : P a = true) (hka : jx_kd sg a = (0, ci, r0.2.2)) (hv : 0 ≤ v)
    (kk : jb_G p l e s m args below meth c Q R hd sg D tA α0 P0 P cn sn (pc + 3) lv st (hu h a (k : Int) v)) : jb_G p l e s m args below meth c Q R hd sg D tA α0 P0 P cn sn pc lv (vr v :: vr a :: st) h := by
  refine ⟨(), fun α hal H locs ls hP hS hl => ?_⟩
  have hW : jx_Wok (wP sg P) := wP_ok X.2.2.2.2.2.2.2.2.2.1.1 X.2.2.2.2.2.2.2.2.2.1.2 P
  obtain ⟨hx, hb, hret, hml, hown, hts, hlk, hK, hE, hsg, -, hin2⟩ := X
  have ho : jx_ob (wP sg P) a ci := by unfold jx_ob; rw [wP_kd hpa, hka]; exact ⟨rfl, rfl⟩
  obtain ⟨h0, q, r1, hq, hc1, hent, hwl⟩ := jx_obj hW ho tA α
  cases hc.symm.trans hc1
  obtain ⟨hin, hty, hnm⟩ := jx_cls ci r0 hc
  rw [List.map_cons, List.map_cons, jx_ref α h0]
  have hfv : narrow (jx_ft ci k) (jx_cv α (vr v)) = jx_cv α (vr v) ∧ fits (jx_ft ci k) (jx_cv α (vr v)) = true := by
    rw [jx_ref α hv]
    revert ht
    cases jx_ft ci k <;> simp [jx_tag] <;> exact ⟨rfl, rfl⟩
  refine va_putF (cl := vwCl) (C := r0.1) (T := r0.2.1) (N := r0.2.2) hx hb hts hin (jx_ft ci) hty hnm hown hK hP (jx_D h hW.1 hal.2.2.1) hS q (by rw [hwl h, hent h]) hc k hkk (hts _ hlink) (fun _ h9 => h9) hfin hin2 hdecl (hty k hkk) hfv.1 hfv.2 (by simpa using hkk) hdg (fun H1 locs1 hP1 _ hS1 => ?_)
  refine kk.a α hal H1 locs1 ls ?_ hS1 hl
  have e1 : ((List.range r0.2.2).map fun j => jx_fvl α (wP sg P) h a (jx_ft ci j) j).set k (jx_cv α (vr v)) = (List.range r0.2.2).map fun j => jx_fvl α (wP sg P) (hu h a (k : Int) v) a (jx_ft ci j) j := by
    refine jx_fset (fun j hj => ?_) ?_
    · unfold jx_fvl jx_rv
      rw [hu_ni (show (j : Int) ≠ (k : Int) by omega)]
    · unfold jx_fvl
      rw [ht]
      show va_rf (jx_opt α (hu h a (k : Int) v a (k : Int))) = _
      rw [hu_eq]
      rfl
  rw [e1, jx_wset (h' := hu h a (k : Int) v) hW.1 hq (hent _) (fun b hb => jx_ent_ne (hu_ne hb))] at hP1
  exact hP1
theorem jb_aast (X : jb_Ctx p s m args meth c o hd sg D tA α0 P0) {ci t N : Nat} {a v i : Int} {r0 : vw_C} (hdg : decode hd.2.1 pc = .ok (.aastore, 1)) (hc : vwCl[ci]? = some r0) (ht9 : t < 9) (hty : jx_et t = .object r0.1) (hpa : P a = true) (hka : jx_kd sg a = (3, t, N)) (hpv : P v = true) (hkv : jx_kd sg v = (0, ci, r0.2.2)) (hi : 0 ≤ w32 i ∧ w32 i < N)
    (kk : jb_G p l e s m args below meth c Q R hd sg D tA α0 P0 P cn sn (pc + 1) lv st (hu h a (w32 i) v)) : jb_G p l e s m args below meth c Q R hd sg D tA α0 P0 P cn sn pc lv (vr v :: vi i :: vr a :: st) h := by
  refine ⟨(), fun α hal H locs ls hP hS hl => ?_⟩
  have hW : jx_Wok (wP sg P) := wP_ok X.2.2.2.2.2.2.2.2.2.1.1 X.2.2.2.2.2.2.2.2.2.1.2 P
  obtain ⟨hx, hb, hret, hml, hown, hts, hlk, hK, hE, hsg, -, -⟩ := X
  have ho : jx_ob (wP sg P) v ci := by unfold jx_ob; rw [wP_kd hpv, hkv]; exact ⟨rfl, rfl⟩
  obtain ⟨v0, qv, r1, hqv, hc1, hentv, hwlv⟩ := jx_obj hW ho tA α
  have k2 : (wP sg P).2.1 a = (3, t, N) := by rw [wP_kd hpa, hka]
  obtain ⟨a0, qa, hqa, hwla⟩ := jx_arr hW (show ((wP sg P).2.1 a).1 < 4 by rw [k2]; exact (by decide : (3 : Nat) < 4)) tA α
  have e3 : ∀ h' : jx_H, jx_ent tA α (wP sg P) h' a = .inl (tA t, N, .inr (.inr (.inr (.inr fun j => jx_opt α (h' a (j : Int)))))) := fun h' => by
    rw [jx_ent3 (t := t) (by rw [k2]) (by rw [k2]), k2]
    rfl
  rw [List.map_cons, List.map_cons, List.map_cons, jx_ref α v0, jx_ref α a0]
  refine va_astq (r := r0) hx hb hK hP (jx_D h hW.1 hal.2.2.1) hS qa t qv ci (by rw [hwla h, e3]) (by rw [← hty]; exact jx_ty ht9) (by rw [hwlv h, hentv h]) hc (jx_vin hi.1 hi.2) hdg (fun H1 locs1 hP1 _ hS1 => ?_)
  refine kk.a α hal H1 locs1 ls ?_ hS1 hl
  have e1 : jx_ent tA α (wP sg P) (hu h a (w32 i) v) a = .inl (tA t, N, .inr (.inr (.inr (.inr (va_up (fun j => jx_opt α (h a (j : Int))) (Int32.ofInt i).toNatClampNeg (some (α v))))))) := by
    rw [e3]
    refine congrArg (fun z => (Sum.inl (tA t, N, Sum.inr (Sum.inr (Sum.inr (Sum.inr z)))) : va_E)) (funext fun j => ?_)
    have hix := jx_ix i hi.1
    show jx_opt α (hu h a (w32 i) v a (j : Int)) = if j = (Int32.ofInt i).toNatClampNeg then some (α v) else jx_opt α (h a (j : Int))
    by_cases hj : j = (Int32.ofInt i).toNatClampNeg
    · rw [if_pos hj, show (j : Int) = w32 i by omega, hu_eq]
      unfold jx_opt
      rw [if_neg (by omega)]
    · rw [if_neg hj, hu_ni (by omega)]
  rw [jx_wset (h' := hu h a (w32 i) v) hW.1 hqa e1 (fun b hb => jx_ent_ne (hu_ne hb))] at hP1
  exact hP1
theorem jb_ret (X : jb_Ctx p s m args meth c o hd sg D tA α0 P0) {K : jx_H → Prop} (hQ : Q = MQ below (jb_Qc sg D tA α0 P0 P K) args s cn sn (fun q => jx_A (wP sg P0) α0 q ∨ s.heap.size ≤ q)) (hdg : decode hd.2.1 pc = .ok (.return_, 1)) (hK2 : K h) : jb_G p l e s m args below meth c Q R hd sg D tA α0 P0 P cn sn pc lv [] h := by
  refine ⟨(), fun α hal H locs ls hP hS hl => ?_⟩
  obtain ⟨hx, hb, hret, hml, hown, hts, hlk, hK, hE, hsg, -, -⟩ := X
  have hA : ∀ q, jx_A (wP sg P) α q → jx_A (wP sg P0) α0 q ∨ s.heap.size ≤ q := fun q ⟨k, hk, e1⟩ => by
    subst e1
    obtain ⟨k1, k2⟩ := wP_mem.mp hk
    rcases hal.2.1 k k1 k2 with z | z
    · exact Or.inl ⟨k, wP_mem.mpr ⟨k1, z⟩, hal.1 k (Or.inl z)⟩
    · exact Or.inr z
  rw [hQ]
  exact W.vret hx hb hret (fun t ht hWm => ⟨⟨rfl, α, h, hK2, hal, by rw [ht]; exact hP⟩, by
    have f := hS.F ht
    exact ⟨f.1, fun q q1 q2 => f.2 q q1 fun z => by
      rcases hA q z with y | y
      · exact q2 y
      · omega⟩⟩) (fun q hq => hA _ (hS.2.2 q hq)) hdg hlk
theorem jb_blind {z : Nat} {a : Int} : FrameBlind (va_Pc [.ref (α0 a)] fun U => U.heap.size = z ∧ va_P D vwCl (jx_wl tA α0 (wP sg P) h) U.heap ∧ va_K D vwCl (jx_tys tA) U ∧ jx_apart (wP sg P) α0 ∧ jb_E α0 (fun q => jx_A (wP sg P) α0 q ∨ U.heap.size ≤ q) U U.heap) := by
  intro a U g mk q
  obtain ⟨q0, q1, q2, q3, q4, q5⟩ := q
  obtain ⟨h0, h1, h2, h3, h4, z, h5, h6⟩ := q5
  exact ⟨q0, q1, q2, va_K.moved (u := U) (U := U.calling g mk a) (Vm.Alike.refl U.vm) q3, q4, jb_AO.moved (u := U) (U := U.calling g mk a) (Vm.Alike.refl U.vm) h0, fun q hq => va_Nw.same rfl rfl (h1 q hq), vk_S.moved (u := U) (U := U.calling g mk a) (Vm.Alike.refl U.vm) h2, fun q hq => vk_R.same rfl (h3 q hq), va_Z.moved (u := U) (U := U.calling g mk a) (Vm.Alike.refl U.vm) h4, z, h5, va_Z.moved (u := U) (U := U.calling g mk a) (Vm.Alike.refl U.vm) h6⟩
theorem jb_E.call {α : Int → Nat} {A : Nat → Prop} {s U : State} {H : Heap} (h : jb_E α A s s.heap) (hq : ∀ a : Nat, a < s.heap.size → ¬ A a → H[a]? = s.heap[a]?) (hW : s.WarmedH U.vm) (hU : U.heap = H) : jb_E α A U U.heap := by
  obtain ⟨h0, h1, h2, h3, h4, z, h5, h6⟩ := h
  rw [hU]
  exact ⟨jb_AO.moved hW.alike h0, fun q hq => va_Nw.warmM hW (h1 q hq), (vk_S.moved hW.alike h2).kept hq, fun q hq => vk_R.warm hW (h3 q hq), (va_Z.moved hW.alike h4).kept hq, z, h5, (va_Z.moved hW.alike h6).kept hq⟩
theorem jb_call (X : jb_Ctx p s m args meth c o hd sg D tA α0 P0) {d' n mc ms : Nat} {hd' : jx_Hd} {b : Int} {P' : Int → Bool} {K : jx_H → Prop} (hdg : decode hd.2.1 pc = .ok (.invokespecial n, 3)) (C : jb_Cal d' hd' sg P b h P' K mc ms) (hw : Cond.methodLink (jx_Rn o) n hd'.1 ∈ jx_T ∨ (jx_Rn o, n, hd'.1, RX11) ∈ jx_nests) (hb0 : 0 ≤ b) (hv9 : (∀ q ∈ lv, ∀ z : Int, q.2 = vr z → 0 ≤ z → P z = true) ∧ ∀ v ∈ st, ∀ z : Int, v = vr z → 0 ≤ z → P z = true) (hst : jx_w st ≤ 8) (hR : d' + 1 ≤ R.frames ∧ 8 + (hd'.2.2.1 + 11) + 100 * d' ≤ R.locals ∧ cn + mc ≤ R.cells ∧ sn + ms ≤ R.slots)
    (kk : ∀ h', K h' → jb_G p l e s m args below meth c Q R hd sg D tA α0 P0 P' (cn + mc) (sn + ms) (pc + 3) lv st h') : jb_G p l e s m args below meth c Q R hd sg D tA α0 P0 P cn sn pc lv (vr b :: st) h := by
  refine ⟨(), fun α hal H locs ls hP hS hl => ?_⟩
  obtain ⟨hx, hb, hret, hml, hown, hts, hlk, hK, hE, hsg, -, -⟩ := X
  obtain ⟨⟨k1, k2, k3, k4, k5, k6, k7, k8, k9⟩, hM⟩ := C
  have hMet := hM l D tA α H.size
  have hE2 := hE.al hal
  have hAq : ∀ a : Nat, a < s.heap.size → ¬ (jx_A (wP sg P) α a ∨ s.heap.size ≤ a) → H[a]? = s.heap[a]? := fun a a1 a2 => hS.2.1 a a1 fun z => a2 (Or.inl z)
  have hpre : PreS s H (va_Pc [.ref (α b)] fun U => U.heap.size = H.size ∧ va_P D vwCl (jx_wl tA α (wP sg P) h) U.heap ∧ va_K D vwCl (jx_tys tA) U ∧ jx_apart (wP sg P) α ∧ jb_E α (fun q => jx_A (wP sg P) α q ∨ U.heap.size ≤ q) U U.heap) [.ref (α b)] := ⟨jb_blind, fun U hU hWm => ⟨rfl, by rw [hU], by rw [hU]; exact hP, va_K.moved hWm.alike hK, hal.2.2.1, (jb_E.call hE2 hAq hWm hU).narrow fun q hq => by
    rcases hq with y | y
    · exact Or.inl y
    · rw [hU] at y; exact Or.inr (Nat.le_trans hS.1 y)⟩⟩
  have hgw : GoodIn jx_T (jx_ws hd') := by
    intro x hx
    rcases List.mem_cons.mp hx with rfl | hx
    · rw [k6]
      exact ⟨k1, jx_T_good k1⟩
    · exact ⟨hx, jx_T_good hx⟩
  have hfin : ∀ (hrun : va_Run p l e R s m args below meth c H locs cn sn mc ms (F0 m pc ls (.ref (α b) :: st.map (jx_cv α))) (st.map (jx_cv α)) (jb_Qc sg D tA α P P' K [Value.ref (α b)].toArray) (fun q => jx_A (wP sg P) α q ∨ H.size ≤ q)), W p l e R s m args below meth c H locs cn sn Q (F0 m pc ls (.ref (α b) :: st.map (jx_cv α))) := by
    intro hrun T hT X
    obtain ⟨v, st₀, t, T', L, h0, X', hL, e1, e2, ⟨⟨hv, α', h', hKh, hal', hP'⟩, hz, hkp⟩, stp⟩ := hrun T hT X
    cases hv
    rw [h0] at hz hkp
    have hal2 : jb_al s sg α0 P0 P' α' := by
      obtain ⟨a1, a2, a3, a4⟩ := hal'
      obtain ⟨b1, b2, b3, b4⟩ := hal
      refine ⟨fun k hk => ?_, fun k hi hk => ?_, a3, fun k hk => a4 k (b4 k hk)⟩
      · rw [a1 k (hk.imp (b4 k) id)]
        exact b1 k hk
      · rcases a2 k hi hk with y | y
        · rw [a1 k (Or.inl y)]
          exact b2 k hi y
        · rw [h0] at y
          exact Or.inr (Nat.le_trans hS.1 y)
    have hin : ∀ q, jx_A (wP sg P) α q → jx_A (wP sg P') α' q := fun q ⟨k, hk, e9⟩ => by
      subst e9
      obtain ⟨m1, m2⟩ := wP_mem.mp hk
      exact ⟨k, wP_mem.mpr ⟨m1, hal'.2.2.2 k m2⟩, (hal'.1 k (Or.inl m2)).symm⟩
    have k1 := (kk h' hKh).a α' hal2 T'.heap ((locs ++ L).filter fun y => decide (y.base < s.heap.size)) ls (by rw [e1]; exact hP') ⟨Nat.le_trans hS.1 (by rw [e1]; exact hz), fun q q1 q2 => by
      rw [e1, hkp q (Nat.lt_of_lt_of_le q1 hS.1) fun z => q2 (hin q z)]
      exact hS.2.1 q q1 fun z => q2 (hin q z), fun y hy => by
      obtain ⟨y1, y2⟩ := List.mem_filter.mp hy
      have y2 := of_decide_eq_true y2
      rcases List.mem_append.mp y1 with y3 | y3
      · exact hin _ (hS.2.2 y y3)
      · rcases hL y y3 with y4 | y4
        · exact hin _ y4
        · exact absurd (Nat.le_trans hS.1 y4) (Nat.not_le.mpr y2)⟩ (by
      rw [cl_al (α := α) fun q hq z e9 e8 => hal'.1 z (Or.inl (hv9.1 q hq z e9 e8))]
      exact hl)
    rw [st_al (α := α) fun v hv1 z e9 e8 => hal'.1 z (Or.inl (hv9.2 v hv1 z e9 e8))] at k1
    have k2 := W_keep (l1 := locs ++ L) (fun y y1 y2 => List.mem_filter.mpr ⟨y1, decide_eq_true y2⟩) k1
    obtain ⟨t2, a1, b1⟩ := k2 T' rfl X'
    exact ⟨t2, stp t2 a1, b1⟩
  rw [List.map_cons, jx_ref α hb0]
  rcases hw with hw | hw
  · exact hfin (va_runI (R := R) (g := F0 m pc ls (.ref (α b) :: st.map (jx_cv α))) (As := []) (n := 0) ⟨hx, hb, hml, hown, hts⟩ hMet (cwI 0 hts hgw (by unfold jx_ws; rw [k6]) rfl rfl (hts _ k2) (hts _ hw) (hts _ k3) k7 ⟨k4.1, k4.2, k8⟩ ⟨hR.1, hR.2.1⟩) hpre rfl rfl hl.1 rfl (lv_room (by rw [jx_w_cat]; exact hst)) hdg ⟨hR.2.2.1, hR.2.2.2⟩)
  · have hnest : va_Nw (.methodLinkNest (jx_Rn o) n hd'.1 RX11) s := hE.2.1 _ hw
    exact hfin (va_runIN (R := R) (g := F0 m pc ls (.ref (α b) :: st.map (jx_cv α))) (As := []) (n := 0) ⟨hx, hb, hml, hown, hts⟩ hMet ⟨va_cnB 0 hts hgw (by unfold jx_ws; rw [k6]) rfl rfl hnest (hts _ k2) ⟨k4.1, k4.2, k8⟩ ⟨hR.1, hR.2.1⟩, k7, hts _ k3⟩ hpre rfl rfl hl.1 rfl (lv_room (by rw [jx_w_cat]; exact hst)) hdg ⟨hR.2.2.1, hR.2.2.2⟩)
end JBP
/-- a constructor out of its table -/
theorem jb_body {sg : List jx_Sg} {o d mc ms : Nat} {hd : jx_Hd} {P P' : Int → Bool} {a : Int} {h : jx_H} {K : jx_H → Prop} (hsg : (jx_ids sg).Nodup ∧ jx_sgok sg = true) (hok : jb_hok hd) (hown : jx_Rn o = hd.1.cls) (h0 : 0 ≤ a) (h1 : 1 ≤ hd.2.2.1)
    (hb : ∀ (p : Program) (l : Launch) (e : Env) (s : State) (m : MethodId) (args : Array Value) (below : List Frame) (meth : Method) (c : Code) (Q : State → Prop) (D : va_G) (tA : Nat → ClassId) (α0 : Int → Nat), jb_Ctx p s m args meth c o hd sg D tA α0 P → Q = MQ below (jb_Qc sg D tA α0 P P' K) args s mc ms (fun q => jx_A (wP sg P) α0 q ∨ s.heap.size ≤ q) → jb_G p l e s m args below meth c Q { frames := d, cells := mc, slots := ms, locals := 100 * d } hd sg D tA α0 P P 0 0 0 [(0, vr a)] [] h) : jb_Cal d hd sg P a h P' K mc ms := by
  refine ⟨hok, fun l D tA α0 z => ?_⟩
  obtain ⟨k1, k2, k3, k4, k5, k6, k7, k8, k9⟩ := hok
  refine Met.ofW (cc := hd.2.1) (maxL := hd.2.2.1) (ret := none) k5 (by unfold jx_ws; rw [k6]) ?_
  intro p e s m args below meth c s₁ B hml hv
  obtain ⟨rfl, hz, hP, hK, hap, hE⟩ := hv
  have hts := atoms_spec (ws := jx_ws hd) B.pre
  have hown2 : s.vm.findClass (jx_Rn o) = some m.cls := by
    rw [hown]
    exact findClass_of_methodNamed B.named
  have X : jb_Ctx p s m [Value.ref (α0 a)].toArray meth c o hd sg D tA α0 P := ⟨B.exec, B.bytes, B.returns, hml, hown2, fun x hx => hts x (List.mem_cons_of_mem _ hx), B.notSynchronized, hK, hE, hsg, k6, (name_of_methodNamed B.named B.method).1.trans k7⟩
  have hl := lv_entry [Value.ref (α0 a)] (n := hd.2.2.1) h1
  rw [lg_entry_eq]
  have q := (hb p l e s m _ below meth c _ D tA α0 X rfl).a α0 ⟨fun _ _ => rfl, fun _ _ hk => Or.inl hk, hap, fun _ hk => hk⟩ s.heap [] _ hP va_S.rf (by
    show lv_has _ _ [(0, jx_cv α0 (vr a))]
    rw [jx_ref α0 h0]
    exact hl)
  subst hz
  exact q
