/-! from the law's entry to its loop -/
/-- one object, new, alone -/
theorem lz_new {sg : List jx_Sg} {D : va_G} {tA : Nat → ClassId} {α : Int → Nat} {h : jx_H} {ci : Nat} {r : vw_C} {s : State} {args : Array Value} {H H1 : Heap} {kC : Class} (hts : ∀ x ∈ jx_T, x.before args s = true) (hK : va_K D vwCl (jx_tys tA) s) (hc : vwCl[ci]? = some r) (hk : jx_kd sg 1 = (0, ci, r.2.2)) (htg : ∀ j, j < r.2.2 → ¬ jx_tag (jx_ft ci j) = 0) (hnew : NewRow sg h 1) (hkC : s.vm.classes[D.1 ci]? = some kC) (e1 : H1[H.size]? = some (blank (D.1 ci) kC)) : va_P D vwCl (jx_wl tA (fun k => if k = 1 then H.size else α k) (wP sg on1) h) H1 := by
  intro i q hi
  obtain ⟨k, hk9, rfl⟩ := List.mem_map.mp (List.mem_of_getElem? hi)
  obtain ⟨k1, k2⟩ := wP_mem.mp hk9
  have ke : k = 1 := of_decide_eq_true k2
  subst ke
  obtain ⟨hin, hty, hnm⟩ := jx_cls ci r hc
  have hKn := hK.1 ci _ hc
  have hka : (wP sg on1).2.1 1 = (0, ci, r.2.2) := by
    rw [wP_kd (show on1 1 = true by decide)]
    exact hk
  show va_at D vwCl ((if (1 : Int) = 1 then H.size else α 1), jx_ent tA (fun k => if k = 1 then H.size else α k) (wP sg on1) h 1) H1
  rw [if_pos rfl]
  unfold jx_ent
  rw [hka]
  refine ⟨r, hc, (u_born (jx_ft ci) hts hin hKn hkC e1 hty).to fun j hj => ?_⟩
  unfold vp_V
  rw [List.getD_eq_getElem?_getD, List.getElem?_map, List.getElem?_range hj]
  have hz := hnew j
  unfold rfC at hz
  rw [hk] at hz
  have d := dfl_v (α := fun k => if k = 1 then H.size else α k) (z := h 1 (j : Int)) (htg j hj) hz
  show defaultValue (jx_ft ci j) = jx_fvl _ _ h 1 (jx_ft ci j) j
  rw [d]
  rfl
theorem on1_ids {sg : List jx_Sg} {α : Int → Nat} {q : Nat} (h : jx_A (wP sg on1) α q) : q = α 1 := by
  obtain ⟨k, hk, e⟩ := h
  obtain ⟨k1, k2⟩ := wP_mem.mp hk
  have ke : k = 1 := of_decide_eq_true k2
  rw [e, ke]
theorem on1_ap (sg : List jx_Sg) (α : Int → Nat) : jx_apart (wP sg on1) α := fun k hk k' hk' _ => by
  have k1 : k = 1 := of_decide_eq_true (wP_mem.mp hk).2
  have k2 : k' = 1 := of_decide_eq_true (wP_mem.mp hk').2
  rw [k1, k2]
/-- a constructor's call out of the law -/
theorem lz_call {p : Program} {l : Launch} {e : Env} {s : State} {m : MethodId} {below : List Frame} {meth : Method} {c : Code} {Q : State → Prop} {b : Nat} {D : va_G} {tA : Nat → ClassId} {sg : List jx_Sg} {w : jx_Wd} {P' : Int → Bool} {St : jx_H → Prop} {hd : jx_Hd} {n mc ms d cn sn pc : Nat} {α0 : Int → Nat} {h0 : jx_H} {H : Heap} {ls : Array Slot} {rest : List Value}
    (hx : p.tables.exec = Jvm.exec) (hb : c.code = code) (hml : c.maxLocals = 4) (hown : s.vm.findClass R_law = some m.cls) (hts : ∀ x ∈ jx_T, x.before #[Value.ref b] s = true) (hok : jb_hok hd)
    (hM : ∀ z : Nat, Met l hd.1 (jx_ws hd) { frames := d, cells := mc, slots := ms, locals := 100 * d } (va_Pc [.ref (α0 1)] fun U => U.heap.size = z ∧ va_P D vwCl (jx_wl tA α0 (wP sg on1) h0) U.heap ∧ va_K D vwCl (jx_tys tA) U ∧ jx_apart (wP sg on1) α0 ∧ jb_E α0 (fun q => jx_A (wP sg on1) α0 q ∨ U.heap.size ≤ q) U U.heap) (fun _ st oc t => (oc = .returned none ∧ ∃ α h', St h' ∧ jb_al st sg α0 on1 P' α ∧ va_P D vwCl (jx_wl tA α w h') t.heap) ∧ va_F (jx_A (wP sg on1) α0) st t) mc ms (fun q => jx_A (wP sg on1) α0 q ∨ z ≤ q))
    (hK : va_K D vwCl (jx_tys tA) s) (hE : jb_E α0 (fun q => s.heap.size ≤ q) s s.heap) (hP : va_P D vwCl (jx_wl tA α0 (wP sg on1) h0) H) (h1 : s.heap.size ≤ α0 1) (hS : va_S (fun q => s.heap.size ≤ q) s.heap H [])
    (hdg : decode code pc = .ok (.invokespecial n, 3)) (hw : Cond.methodLink R_law n hd.1 ∈ jx_T) (hl : ls.size = 4) (hst : (rest.map fun v => v.category).sum ≤ 8) (hR : d + 1 ≤ 2048 ∧ 8 + (hd.2.2.1 + 11) + 100 * d ≤ 84000 ∧ cn + mc ≤ 600000 ∧ sn + ms ≤ 7302250)
    (kk : ∀ (α : Int → Nat) (h' : jx_H) (H2 : Heap), St h' → (∀ k, (on1 k = true ∨ 1000 ≤ k) → α k = α0 k) → (∀ k, k ∈ jx_ids sg → P' k = true → on1 k = true ∨ H.size ≤ α k) → jx_apart (wP sg P') α → va_P D vwCl (jx_wl tA α w h') H2 → H.size ≤ H2.size → (∀ q : Nat, q < H.size → q ≠ α0 1 → H2[q]? = H[q]?) → W p l e room_1 s m #[Value.ref b] below meth c H2 [] (cn + mc) (sn + ms) Q (F0 m (pc + 3) ls rest)) : W p l e room_1 s m #[Value.ref b] below meth c H [] cn sn Q (F0 m pc ls (.ref (α0 1) :: rest)) := by
  obtain ⟨k1, k2, k3, k4, k5, k6, k7, k8, k9⟩ := hok
  have hMet := hM H.size
  have hgw : GoodIn jx_T (jx_ws hd) := by
    intro x hx
    rcases List.mem_cons.mp hx with rfl | hx
    · rw [k6]
      exact ⟨k1, jx_T_good k1⟩
    · exact ⟨hx, jx_T_good hx⟩
  have hpre : PreS s H (va_Pc [.ref (α0 1)] fun U => U.heap.size = H.size ∧ va_P D vwCl (jx_wl tA α0 (wP sg on1) h0) U.heap ∧ va_K D vwCl (jx_tys tA) U ∧ jx_apart (wP sg on1) α0 ∧ jb_E α0 (fun q => jx_A (wP sg on1) α0 q ∨ U.heap.size ≤ q) U U.heap) [.ref (α0 1)] := ⟨jb_blind, fun U hU hWm => ⟨rfl, by rw [hU], by rw [hU]; exact hP, va_K.moved hWm.alike hK, on1_ap sg α0, (jb_E.call hE (fun a a1 a2 => hS.2.1 a a1 a2) hWm hU).narrow fun q hq => by
    rcases hq with y | y
    · rw [on1_ids y]; exact h1
    · rw [hU] at y; exact Nat.le_trans hS.1 y⟩⟩
  have hrun := va_runI (R := room_1) (g := F0 m pc ls (.ref (α0 1) :: rest)) (As := []) (n := 0) (H := H) (locs := []) (cells := cn) (slots := sn) (below := below) (meth := meth) (e := e) (rest := rest) (b := α0 1) ⟨hx, hb, hml, hown, hts⟩ hMet (cwI 0 hts hgw (by unfold jx_ws; rw [k6]) rfl rfl (hts _ k2) (hts _ hw) (hts _ k3) k7 ⟨k4.1, k4.2, k8⟩ ⟨hR.1, hR.2.1⟩) hpre rfl rfl hl rfl (lv_room hst) hdg ⟨hR.2.2.1, hR.2.2.2⟩
  intro T hT X
  obtain ⟨v, st₀, t, T', L, h9, X', hL, e1, e2, ⟨⟨hv, α', h', hKh, hal', hP'⟩, hz, hkp⟩, stp⟩ := hrun T hT X
  cases hv
  rw [h9] at hz hkp
  obtain ⟨a1, a2, a3, a4⟩ := hal'
  have g := kk α' h' T'.heap hKh a1 (fun k hi hk => by
    rcases a2 k hi hk with y | y
    · exact Or.inl y
    · rw [h9] at y; exact Or.inr y) a3 (by rw [e1]; exact hP') (by rw [e1]; exact hz) (fun q q1 q2 => by
      rw [e1]
      exact hkp q q1 fun z => q2 (on1_ids z))
  have g2 := va_forget (locs := [] ++ L) (fun y hy => by
    rcases hL y hy with z | z
    · rw [on1_ids z]; exact h1
    · exact Nat.le_trans hS.1 z) g
  obtain ⟨t2, b1, b2⟩ := g2 T' rfl X'
  exact ⟨t2, stp t2 b1, b2⟩
theorem jb_E.re {α0 α : Int → Nat} {A : Nat → Prop} {U : State} {H : Heap} (h : jb_E α0 A U H) (eα : ∀ k, 1000 ≤ k → α k = α0 k) : jb_E α A U H := by
  obtain ⟨h0, h1, h2, h3, h4, z, h5, h6⟩ := h
  refine ⟨h0, h1, ?_, fun q hq => ?_, h4, z, h5, ?_⟩
  · have e1 : (fun i : Nat => α (2000 + (i : Int))) = fun i : Nat => α0 (2000 + (i : Int)) := funext fun i => eα _ (by omega)
    have e2 : (fun i : Nat => α (2010 + (i : Int))) = fun i : Nat => α0 (2010 + (i : Int)) := funext fun i => eα _ (by omega)
    rw [e1, e2]
    exact h2
  · have x := h3 q hq
    rw [eα q.2.2.1 (by
      unfold jx_SL at hq
      simp only [List.mem_cons, List.not_mem_nil, or_false] at hq
      rcases hq with rfl | rfl | rfl <;> decide)]
    exact x
  · have e3 : jx_opt α z = jx_opt α0 z := by
      unfold jx_opt
      by_cases hz : z < 0
      · rw [if_pos hz, if_pos hz]
      · rw [if_neg hz, if_neg hz, eα z (by omega)]
    rw [e3]
    exact h6
theorem whole_start {p : Program} {e : Env} {s : State} {m : MethodId} {below : List Frame} {meth : Method} {c : Code} (l : Launch) (hflags : l.flags = flags0) {b L : Nat} {xs : Nat → Int32} (hL : L ≤ 5120) (C0 : lw_At p s m meth c b L xs) : W p l e room_1 s m #[Value.ref b] below meth c s.heap [] 0 0 (lw_Z below #[Value.ref b] s) (entryFrame m ([Value.ref b] : List Value).toArray 4) := by
  obtain ⟨hx, hb, hr, hml, hown, hts, hX, hbl, hlocks, hgv⟩ := id C0
  have ht : ∀ x ∈ jx_T, x.before #[Value.ref b] s = true := fun x hx => hts x (List.mem_filter.mp hx).1
  obtain ⟨D, hD⟩ := lz_D ht
  obtain ⟨tA, hT⟩ := lz_tA hts
  have hK := lz_K hD hT
  obtain ⟨αs, hEs⟩ := lz_E hts hgv
  have hl := lv_entry ([.ref b]) (n := 4) (Nat.le_of_ble_eq_true rfl)
  rw [lg_entry_eq]
  generalize (lg_sl ([.ref b]) ++ List.replicate (4 - (lg_sl ([.ref b])).length) Slot.unset).toArray = ls at hl ⊢
  have hl : lv_has ls 4 [(0, .ref b)] := hl
  refine W.newcK (C := RX11) (n := 13) (h := s.heap.size) hx hb hown (ht _ (jx_mem 126 (by decide +kernel))) (ht _ (jx_mem 127 (by decide +kernel))) (ht _ (jx_mem 104 (by decide +kernel))) rfl (by decide +kernel : decode code 0 = .ok (.new 7, 3)) (Nat.le_of_ble_eq_true rfl) (Nat.le_of_ble_eq_true rfl) (hK.1 11 _ rfl).2.1 rfl fun H1 kC hkC e1 z1 o1 => ?_
  show W p l e room_1 s m #[Value.ref b] below meth c H1 [] 1 13 (lw_Z below #[Value.ref b] s) (F0 m 3 ls [.ref s.heap.size])
  obtain ⟨α1, hα1⟩ : ∃ z, z = fun k : Int => if k = 1 then s.heap.size else αs k := ⟨_, rfl⟩
  have a1 : α1 1 = s.heap.size := by rw [hα1]; exact if_pos rfl
  have k1 : ∀ k, 1000 ≤ k → α1 k = αs k := fun k hk => by rw [hα1]; exact if_neg (by omega)
  have P1 : va_P D vwCl (jx_wl tA α1 (wP sgC on1) nhC) H1 := by
    rw [hα1]
    exact lz_new (ci := 11) (r := (RX11, TX11, 13)) ht hK rfl (by decide +kernel) (by decide +kernel) (nhC_new 1) hkC e1
  have E1 := hEs.re k1
  have S1 : va_S (fun q => s.heap.size ≤ q) s.heap H1 [] := ⟨by omega, fun q q1 _ => o1 q q1, fun y hy => by cases hy⟩
  clear hα1
  refine lv_dup hx hb (by decide +kernel : decode code 3 = .ok (.dup, 1)) rfl ?_
  rw [← a1]
  refine lz_call (pc := 4) (n := 9) (d := 47) (mc := 517) (ms := 64399) (St := StC) (P' := mnP) (w := wC) hx hb hml hown ht hX11_init_ok (fun z => B_ctorC l D tA α1 z) hK E1 P1 (Nat.le_of_eq a1.symm) S1 (by decide +kernel) (jx_mem 128 (by decide +kernel)) hl.1 (Nat.le_of_ble_eq_true rfl) ⟨Nat.le_of_ble_eq_true rfl, Nat.le_of_ble_eq_true rfl, Nat.le_of_ble_eq_true rfl, Nat.le_of_ble_eq_true rfl⟩ fun αC gC H2 sC c1 c2 c3 P2 z2 o2 => ?_
  have c11 : α1 1 = αC 1 := (c1 1 (Or.inl (by decide))).symm
  rw [c11]
  refine lv_astore_n (lv' := [(1, .ref (αC 1)), (0, .ref b)]) hx hb (by decide +kernel : decode code 7 = .ok (.astore_n 1, 1)) rfl hl (by decide) rfl (fun ls hl => ?_)
  refine W.newcK (C := RX12) (n := 45) (h := H2.size) hx hb hown (ht _ (jx_mem 1182 (by decide +kernel))) (ht _ (jx_mem 1183 (by decide +kernel))) (ht _ (jx_mem 123 (by decide +kernel))) rfl (by decide +kernel : decode code 8 = .ok (.new 10, 3)) (Nat.le_of_ble_eq_true rfl) (Nat.le_of_ble_eq_true rfl) (hK.1 12 _ rfl).2.1 rfl fun H3 kM hkM e3 z3 o3 => ?_
  show W p l e room_1 s m #[Value.ref b] below meth c H3 [] 519 64457 (lw_Z below #[Value.ref b] s) (F0 m 11 ls [.ref H2.size])
  obtain ⟨α2, hα2⟩ : ∃ z, z = fun k : Int => if k = 1 then H2.size else αs k := ⟨_, rfl⟩
  have a2 : α2 1 = H2.size := by rw [hα2]; exact if_pos rfl
  have k2 : ∀ k, 1000 ≤ k → α2 k = αs k := fun k hk => by rw [hα2]; exact if_neg (by omega)
  have P3 : va_P D vwCl (jx_wl tA α2 (wP sgM on1) nhM) H3 := by
    rw [hα2]
    exact lz_new (ci := 12) (r := (RX12, TX12, 45)) ht hK rfl (by decide +kernel) (by decide +kernel) (nhM_new 1) hkM e3
  have E2 := hEs.re k2
  have S3 : va_S (fun q => s.heap.size ≤ q) s.heap H3 [] := ⟨by omega, fun q q1 _ => by rw [o3 q (by omega), o2 q (by omega) (by omega), o1 q q1], fun y hy => by cases hy⟩
  clear hα2
  refine lv_dup hx hb (by decide +kernel : decode code 11 = .ok (.dup, 1)) rfl ?_
  rw [← a2]
  refine lz_call (pc := 12) (n := 12) (d := 4) (mc := 26) (ms := 278798) (St := StM) (P' := rfP) (w := wM) hx hb hml hown ht hX12_init_ok (fun z => F_ctor l D tA α2 z) hK E2 P3 (by omega) S3 (by decide +kernel) (jx_mem 1184 (by decide +kernel)) hl.1 (Nat.le_of_ble_eq_true rfl) ⟨Nat.le_of_ble_eq_true rfl, Nat.le_of_ble_eq_true rfl, Nat.le_of_ble_eq_true rfl, Nat.le_of_ble_eq_true rfl⟩ fun αM gR H4 sM d1 d2 d3 P4 z4 o4 => ?_
  have d11 : α2 1 = αM 1 := (d1 1 (Or.inl (by decide))).symm
  rw [d11]
  refine lv_astore_n (lv' := [(2, .ref (αM 1)), (1, .ref (αC 1)), (0, .ref b)]) hx hb (by decide +kernel : decode code 15 = .ok (.astore_n 2, 1)) rfl hl (by decide) rfl (fun ls hl => ?_)
  refine lv_iconst (v := Int32.ofInt 0) hx hb (by decide +kernel : decode code 16 = .ok (.iconst 0, 1)) rfl ?_
  refine lv_istore_n (lv' := [(3, .int (Int32.ofInt 0)), (2, .ref (αM 1)), (1, .ref (αC 1)), (0, .ref b)]) hx hb (by decide +kernel : decode code 17 = .ok (.istore_n 3, 1)) rfl hl (by decide) rfl (fun ls hl => ?_)
  have lC2 : ∀ k, k ∈ wC.1 → αC k < H2.size := fun k hk => wl_lt P2 hk
  have lC : ∀ k, k ∈ wC.1 → s.heap.size ≤ αC k := fun k hk => by
    rcases c2 k hk (mnP_all k hk) with z | z
    · have ke : k = 1 := of_decide_eq_true z
      rw [ke, ← c11, a1]
      exact Nat.le_refl _
    · omega
  have lM2 : ∀ k, k ∈ wM.1 → H2.size ≤ αM k := fun k hk => by
    rcases d2 k hk (rfP_all k hk) with z | z
    · have ke : k = 1 := of_decide_eq_true z
      rw [ke, ← d11, a2]
      exact Nat.le_refl _
    · omega
  have apC : jx_apart wC αC := fun k hk k' hk' e9 => c3 k (wP_mem.mpr ⟨hk, mnP_all k hk⟩) k' (wP_mem.mpr ⟨hk', mnP_all k' hk'⟩) e9
  have apM : jx_apart wM αM := fun k hk k' hk' e9 => d3 k (wP_mem.mpr ⟨hk, rfP_all k hk⟩) k' (wP_mem.mpr ⟨hk', rfP_all k' hk'⟩) e9
  have lM : ∀ k, k ∈ wM.1 → s.heap.size ≤ αM k := fun k hk => by
    have := lM2 k hk
    omega
  have EC : jx_E αC (jx_A wC αC) s s.heap := ((E1.re fun k hk => c1 k (Or.inr hk)).narrow fun q ⟨k, hk, e9⟩ => by rw [e9]; exact lC k hk).e
  have EM : jx_E αM (jx_A wM αM) s s.heap := ((E2.re fun k hk => d1 k (Or.inr hk)).narrow fun q ⟨k, hk, e9⟩ => by rw [e9]; exact lM k hk).e
  have X : lq_Ctx p s m meth c b L xs D tA αC αM := ⟨⟨hx, hb, hr, hml, hown, ht, hX, hbl, hlocks⟩, hK, ⟨apC, apM⟩, ⟨lC, lM, fun k hk k' hk' e9 => by
    have q1 := lC2 k hk
    have q2 := lM2 k' hk'
    omega⟩, EC, EM⟩
  have fin : ∀ (i : Int) (h g : jx_H), lq_G p l e s m below meth c (lw_Z below #[Value.ref b] s) b D tA αC αM 1581 [] i h g := fun i h g => ⟨(), fun H ls hP hM hS hl => lv_iconst (v := 1) hx hb (by decide +kernel : decode code 1581 = .ok (.iconst 1, 1)) rfl (W.widen (k := 600000) (n := 7302250) (Nat.le_of_ble_eq_true rfl) (Nat.le_of_ble_eq_true rfl) (lw_ret hx hb hr hlocks (by decide +kernel : decode code 1582 = .ok (.ireturn, 1))))⟩
  have P5 : va_P D vwCl (jx_wl tA αC wC gC) H4 := P2.kept fun k q hq => by
    have lt := (P2 k q hq).lt
    rw [o4 q.1 (by omega) (by omega), o3 q.1 lt]
  have S5 : va_S (fun q => s.heap.size ≤ q) s.heap H4 [] := ⟨by omega, fun q q1 q2 => by rw [o4 q (by omega) (by omega)]; exact S3.2.1 q q1 q2, fun y hy => by cases hy⟩
  have eR : gR = gM := sM
  subst eR
  exact (lk_loop X hL fin L 0 gC gM 0 (by omega) (by decide) (by decide) (new_Sim sC) gM_RX (by decide)).a H4 ls P5 P4 S5 (lv_sub hl [3, 2, 1, 0] rfl)
