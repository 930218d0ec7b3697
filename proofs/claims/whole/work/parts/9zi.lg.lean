/-! THE CLAIM OUT OF ONE WALK OF THE LAW'S BODY. Your part is whole_start (and what it stands on); all else here is the same for every law, but numbers. -/
def R_law : String := "LearningPaidLaw"
def lw_P (b : Addr) (xs : List Int32) (args : Array Value) (s : State) : Prop := args = #[.ref b] ∧ s.IntsAt b xs ∧ xs.length ≤ 5120 ∧ (Jvm.Cond.and given_1 narrow_1).before args s = true
def lw_Q (_ : Array Value) (s : State) (o : Outcome) (t : State) : Prop := o = .returned (some (.int 1)) ∧ Framed s o t [] 600000 7302250
def lw_Z (below : List Frame) (a : Array Value) (s : State) : State → Prop := fun t => ∃ o, t.status = .running ∧ Ended t below o ∧ lw_Q a s o t
/-- the law's own end, with 1 on the stack, nothing written that was there before, its room as the claim has it -/
theorem lw_ret {p : Program} {l : Launch} {e : Env} {s : State} {m : MethodId} {below : List Frame} {meth : Method} {c : Code} {b : Nat} (hx : p.tables.exec = Jvm.exec) (hb : c.code = code) (hr : meth.sig.returnType = ret) (hlocks : meth.locks = false) {pc : Nat} {H : Heap} {ls : Array Slot} (hdg : decode code pc = .ok (.ireturn, 1)) : W p l e room_1 s m #[Value.ref b] below meth c H [] 600000 7302250 (lw_Z below #[Value.ref b] s) (F0 m pc ls [.int 1]) := by
  intro T hT X
  obtain ⟨fs, hret, hrun, hended, hW, hframe⟩ := X.leave (v := some (.int 1)) (hlocks := hlocks) (fun h => by rw [hr] at h; cases h)
  have hmeth' : T.vm.method? m = some meth := X.method'
  refine ⟨T.setFrames fs, ?_, .returned (some (.int 1)), hrun, hended, rfl, ⟨_, rfl⟩, hW, hframe⟩
  jvm_step X.here [X.here.top, hx, hb, hdg, hmeth', hr, ret, narrow_b1]
  (try refine ⟨rfl, ?_⟩); (try refine ⟨rfl, ?_⟩)
  first | (intro acts; rw [hret _ acts rfl rfl rfl]) | rw [hret _ _ rfl rfl rfl]
  exact Steps.refl _
/-- what holds at the law's entry: the machine, the code, the tables' words (any of lw_tbl by 'hts w (by decide +kernel)'), the script of L ints xs at the cell b, what the Statement gives of the start (any of its parts by flat_of_before) -/
def lw_At (p : Program) (s : State) (m : MethodId) (meth : Method) (c : Code) (b L : Nat) (xs : Nat → Int32) : Prop :=
  p.tables.exec = Jvm.exec ∧ c.code = code ∧ meth.sig.returnType = ret ∧ c.maxLocals = 4 ∧ s.vm.findClass R_law = some m.cls ∧ (∀ w ∈ lw_tbl, w.before #[Value.ref b] s = true) ∧ va_X b L xs s s.heap ∧ b < s.heap.size ∧ meth.locks = false ∧ (Jvm.Cond.and given_1 narrow_1).before #[Value.ref b] s = true
/-! the law: its own frame over the two worlds -/
def lq_Ctx (p : Program) (s : State) (m : MethodId) (meth : Method) (c : Code) (b L : Nat) (xs : Nat → Int32) (D : va_G) (tA : Nat → ClassId) (αC αM : Int → Nat) : Prop :=
  (p.tables.exec = Jvm.exec ∧ c.code = code ∧ meth.sig.returnType = ret ∧ c.maxLocals = 4 ∧ s.vm.findClass R_law = some m.cls ∧ (∀ x ∈ jx_T, x.before #[Value.ref b] s = true) ∧ va_X b L xs s s.heap ∧ b < s.heap.size ∧ meth.locks = false) ∧ va_K D vwCl (jx_tys tA) s ∧ (jx_apart wC αC ∧ jx_apart wM αM) ∧ ((∀ k ∈ wC.1, s.heap.size ≤ αC k) ∧ (∀ k ∈ wM.1, s.heap.size ≤ αM k) ∧ ∀ k ∈ wC.1, ∀ k' ∈ wM.1, αC k ≠ αM k') ∧ jx_E αC (jx_A wC αC) s s.heap ∧ jx_E αM (jx_A wM αM) s s.heap
def lq_n : Nat := 545
def lq_m : Nat := 343255
section LQ
variable {p : Program} {l : Launch} {e : Env} {s : State} {m : MethodId} {below : List Frame} {meth : Method} {c : Code} {Q : State → Prop}
variable {b L : Nat} {xs : Nat → Int32} {D : va_G} {tA : Nat → ClassId} {αC αM : Int → Nat} {pc : Nat} {st : List Value} {i : Int} {h g : jx_H}
/-- at pc, the class's world holds h, the reference's g, the number read is i -/
def lq_G (p : Program) (l : Launch) (e : Env) (s : State) (m : MethodId) (below : List Frame) (meth : Method) (c : Code) (Q : State → Prop) (b : Nat) (D : va_G) (tA : Nat → ClassId) (αC αM : Int → Nat) (pc : Nat) (st : List Value) (i : Int) (h g : jx_H) : Prop := ∃ _u : Unit, ∀ (H : Heap) (ls : Array Slot), va_P D vwCl (jx_wl tA αC wC h) H → va_P D vwCl (jx_wl tA αM wM g) H → va_S (fun q => s.heap.size ≤ q) s.heap H [] → lv_has ls 4 [(0, .ref b), (1, .ref (αC 1)), (2, .ref (αM 1)), (3, .int (Int32.ofInt i))] → W p l e room_1 s m #[Value.ref b] below meth c H [] lq_n lq_m Q (F0 m pc ls st)
theorem lq_G.a (k : lq_G p l e s m below meth c Q b D tA αC αM pc st i h g) : ∀ (H : Heap) (ls : Array Slot), va_P D vwCl (jx_wl tA αC wC h) H → va_P D vwCl (jx_wl tA αM wM g) H → va_S (fun q => s.heap.size ≤ q) s.heap H [] → lv_has ls 4 [(0, .ref b), (1, .ref (αC 1)), (2, .ref (αM 1)), (3, .int (Int32.ofInt i))] → W p l e room_1 s m #[Value.ref b] below meth c H [] lq_n lq_m Q (F0 m pc ls st) := by
  obtain ⟨-, k⟩ := k
  exact k
def lq_arg (pc k : Nat) : Bool := decide (decode code pc = .ok (.aload_n 0, 1)) && (decide (decode code (pc + 1) = .ok (.iload_n 3, 1)) && (if k ≤ 5 then decide (decode code (pc + 2) = .ok (.iconst k, 1)) && (decide (decode code (pc + 3) = .ok (.iadd, 1)) && decide (decode code (pc + 4) = .ok (.iaload, 1))) else decide (decode code (pc + 2) = .ok (.bipush k, 2)) && (decide (decode code (pc + 4) = .ok (.iadd, 1)) && decide (decode code (pc + 5) = .ok (.iaload, 1)))))
def lq_args : Nat → List Nat → Nat → Bool
  | pc, [], t => decide (pc = t)
  | pc, k :: r, t => lq_arg pc k && lq_args (if k ≤ 5 then pc + 5 else pc + 6) r t
/-- numbers come onto the stack -/
def lq_push (p : Program) (l : Launch) (e : Env) (s : State) (m : MethodId) (below : List Frame) (meth : Method) (c : Code) (Q : State → Prop) (b : Nat) (D : va_G) (tA : Nat → ClassId) (αC αM : Int → Nat) (i : Int) (pc t : Nat) (as : List Int) : Prop := ∀ (st : List Value) (h g : jx_H), lq_G p l e s m below meth c Q b D tA αC αM t ((as.map fun z => Value.int (Int32.ofInt z)).reverse ++ st) i h g → lq_G p l e s m below meth c Q b D tA αC αM pc st i h g
/-- the k-th number of the call that begins at i -/
def lq_v (xs : Nat → Int32) (i : Int) (k : Nat) : Int := (xs (i.toNat + k)).toInt
theorem lq_v_I (xs : Nat → Int32) (i : Int) (k : Nat) : I32 (lq_v xs i k) := by
  unfold lq_v I32
  exact ⟨Int32.le_toInt _, Int32.toInt_lt _⟩
theorem lq_rd (X : lq_Ctx p s m meth c b L xs D tA αC αM) (hL : L ≤ 5120) {k t : Nat} (hi : 0 ≤ i) (hk : i + k < L) (hdg : decode code pc = .ok (.iaload, 1)) (kk : lq_G p l e s m below meth c Q b D tA αC αM (pc + 1) (.int (Int32.ofInt (lq_v xs i k)) :: st) i h g) : lq_G p l e s m below meth c Q b D tA αC αM pc (.int (Int32.ofInt (i + k)) :: .ref b :: st) i h g := by
  refine ⟨(), fun H ls hP hM hS hl => ?_⟩
  obtain ⟨⟨hx, hb, hr, hml, hown, hts, hX, hbl, hlk⟩, -⟩ := X
  have w1 : w32 (i + k) = i + k := w32_id (by omega) (by omega)
  have hin : vp_in (Int32.ofInt (i + k)) L := jx_vin (by omega) (by omega)
  refine va_sld (A := fun q => s.heap.size ≤ q) hx hb hX hbl (Nat.not_le.mpr hbl) hS hin hdg ?_
  have e1 : (Int32.ofInt (i + k)).toNatClampNeg = i.toNat + k := by
    have := jx_ix (i + k) (by omega)
    omega
  rw [e1]
  have e2 : xs (i.toNat + k) = Int32.ofInt (lq_v xs i k) := (i32_of _).symm
  rw [e2]
  exact kk.a H ls hP hM hS hl
theorem lq_arg_ok (X : lq_Ctx p s m meth c b L xs D tA αC αM) (hL : L ≤ 5120) {k : Nat} (ha : lq_arg pc k = true) (hi : 0 ≤ i) (hk : i + k < L) (k9 : k ≤ 9) : lq_push p l e s m below meth c Q b D tA αC αM i pc (if k ≤ 5 then pc + 5 else pc + 6) [lq_v xs i k] := by
  intro st h g kk
  refine ⟨(), fun H ls hP hM hS hl => ?_⟩
  have X0 := X
  obtain ⟨⟨hx, hb, hr, hml, hown, hts, hX, hbl, hlk⟩, -⟩ := X
  unfold lq_arg at ha
  by_cases h5 : k ≤ 5
  · rw [if_pos h5] at ha kk
    simp only [Bool.and_eq_true, decide_eq_true_eq] at ha
    obtain ⟨a1, a2, a3, a4, a5⟩ := ha
    refine lv_aload_n hx hb a1 rfl (lv_at hl 0 rfl) ?_
    refine lv_iload_n hx hb a2 rfl (lv_at hl 3 rfl) ?_
    refine lv_iconst (v := Int32.ofInt (k : Int)) hx hb a3 rfl ?_
    refine lv_iadd hx hb a4 ?_
    rw [i32_add]
    exact (lq_rd X0 hL (t := 0) hi hk a5 kk).a H ls hP hM hS hl
  · rw [if_neg h5] at ha kk
    simp only [Bool.and_eq_true, decide_eq_true_eq] at ha
    obtain ⟨a1, a2, a3, a4, a5⟩ := ha
    refine lv_aload_n hx hb a1 rfl (lv_at hl 0 rfl) ?_
    refine lv_iload_n hx hb a2 rfl (lv_at hl 3 rfl) ?_
    refine lv_bipush (v := Int32.ofInt (k : Int)) hx hb a3 (by
      rcases (show k = 6 ∨ k = 7 ∨ k = 8 ∨ k = 9 by omega) with rfl | rfl | rfl | rfl <;> decide) ?_
    refine lv_iadd hx hb a4 ?_
    rw [i32_add]
    exact (lq_rd X0 hL (t := 0) hi hk a5 kk).a H ls hP hM hS hl
theorem lq_args_ok (X : lq_Ctx p s m meth c b L xs D tA αC αM) (hL : L ≤ 5120) (hi : 0 ≤ i) (hk : i + 9 < L) (ks : List Nat) : ∀ (pc t : Nat), (∀ k ∈ ks, k ≤ 9) → lq_args pc ks t = true → lq_push p l e s m below meth c Q b D tA αC αM i pc t (ks.map (lq_v xs i)) := by
  induction ks with
  | nil =>
    intro pc t _ ha
    have ha : decide (pc = t) = true := ha
    have e1 := of_decide_eq_true ha
    subst e1
    intro st h g kk
    exact kk
  | cons k r ih =>
    intro pc t hr ha
    obtain ⟨a1, a2⟩ := (Bool.and_eq_true _ _).mp (show (lq_arg pc k && lq_args (if k ≤ 5 then pc + 5 else pc + 6) r t) = true from ha)
    have k9 := hr k List.mem_cons_self
    intro st h g kk
    refine lq_arg_ok X hL a1 hi (by omega) k9 st h g ?_
    refine ih _ t (fun x hx => hr x (List.mem_cons_of_mem _ hx)) a2 _ h g ?_
    rw [List.map_cons, List.map_cons, List.reverse_cons, List.append_assoc] at kk
    exact kk
theorem lq_push_app {pc t u : Nat} {as bs : List Int} (q1 : lq_push p l e s m below meth c Q b D tA αC αM i pc t as) (q2 : lq_push p l e s m below meth c Q b D tA αC αM i t u bs) : lq_push p l e s m below meth c Q b D tA αC αM i pc u (as ++ bs) := fun st h g kk => by
  refine q1 st h g (q2 _ h g ?_)
  rw [List.map_append, List.reverse_append, List.append_assoc] at kk
  exact kk
/-- a number as a yes or no -/
theorem lq_bool (X : lq_Ctx p s m meth c b L xs D tA αC αM) (hL : L ≤ 5120) (hi : 0 ≤ i) (hk : i + 9 < L) {k : Nat} (k5 : k ≤ 5) (a : lq_arg pc k = true) (b1 : decode code (pc + 5) = .ok (.ifCond .eq 7, 3)) (b2 : decode code (pc + 8) = .ok (.iconst 1, 1)) (b3 : decode code (pc + 9) = .ok (.goto 4, 3)) (b4 : decode code (pc + 12) = .ok (.iconst 0, 1)) : lq_push p l e s m below meth c Q b D tA αC αM i pc (pc + 13) [if lq_v xs i k = 0 then 0 else 1] := by
  intro st h g kk
  have X0 := X
  obtain ⟨⟨hx, hb, hr, hml, hown, hts, hX, hbl, hlk⟩, -⟩ := X
  have hv := lq_v_I xs i k
  have q := lq_arg_ok (l := l) (e := e) (below := below) (Q := Q) X0 hL a hi (by omega) (by omega) st h g
  rw [if_pos k5] at q
  refine q ⟨(), fun H ls hP hM hS hl => ?_⟩
  refine lv_if_eq (tgt := pc + 12) hx hb b1 (by omega) (fun e0 => ?_) (fun e0 => ?_)
  · have e1 : lq_v xs i k = 0 := by
      have := (i32_0 _).mp e0
      rw [w32_id hv.1 hv.2] at this
      exact this
    rw [if_pos e1] at kk
    refine lv_iconst (v := Int32.ofInt 0) hx hb b4 rfl ?_
    exact kk.a H ls hP hM hS hl
  · have e1 : ¬ lq_v xs i k = 0 := fun z => e0 (by rw [z]; rfl)
    rw [if_neg e1] at kk
    refine lv_iconst (v := Int32.ofInt 1) hx hb b2 rfl ?_
    refine lv_goto (tgt := pc + 13) hx hb b3 (by omega) ?_
    exact kk.a H ls hP hM hS hl
theorem lq_callC (X : lq_Ctx p s m meth c b L xs D tA αC αM) {n d : Nat} {hd : jx_Hd} {as : List Int} {K : Int → jx_H → Prop} (hdg : decode code pc = .ok (.invokevirtual n, 3)) (hlk : Cond.methodLink R_law n hd.1 ∈ jx_T) (h11 : hd.2.2.2.2.2.2.1 = 11) (hcl : hd.1.cls = jx_Rn 11) (ha : hd.2.2.2.2.1 = as.length + 1) (hd9 : d ≤ 100) (C : jx_Cal wC d hd (vr 1 :: as.map vi) h K) (hst : (st.map fun v => v.category).sum ≤ 8)
    (kk : ∀ z h', K z h' → lq_G p l e s m below meth c Q b D tA αC αM (pc + 3) ((jx_ro αC hd.2.2.2.2.2.1 z).toList ++ st) i h' g) : lq_G p l e s m below meth c Q b D tA αC αM pc ((as.map fun z => Value.int (Int32.ofInt z)).reverse ++ (.ref (αC 1) :: st)) i h g := by
  refine ⟨(), fun H ls hP hM hS hl => ?_⟩
  obtain ⟨⟨hx, hb, hr, hml, hown, hts, hX, hbl, hlock⟩, hK, ⟨apC, apM⟩, ⟨hC, hMm, hCM⟩, hEC, hEM⟩ := X
  obtain ⟨hok, hMt⟩ := C
  have hMet := hMt l D tA αC
  obtain ⟨hcode, hini, hkind, hnotMH, hpl, hrt, hmL⟩ := id hok
  rcases hkind with ⟨h99, -, -⟩ | ⟨hlt, hins, hsel, hcn, hpar⟩
  · rw [h11] at h99
    exact absurd h99 (by decide)
  · have hdesc : (parseMethodDescriptor hd.1.desc).map (fun d => d.parameters.length) = some as.length := by
      rw [ha] at hpar
      revert hpar
      cases parseMethodDescriptor hd.1.desc with
      | none => simp
      | some sg => simp
    have hAs : (as.map vi).map (jx_cv αC) = as.map (fun z => Value.int (Int32.ofInt z)) := by
      rw [List.map_map]
      rfl
    obtain ⟨h0, q, r1, hq, hc1, hent, hwl⟩ := jx_obj wC_ok (show jx_ob wC 1 11 from ⟨rfl, rfl⟩) tA αC
    have hrc := va_recv hK hP hc1 (by rw [hwl h, hent h] : (jx_wl tA αC wC h)[q]? = some (αC 1, .inr (11, _)))
    have hcls : r1.1 = hd.1.cls := by
      rw [hcl]
      cases hc1
      rfl
    rw [hcls] at hrc
    have hSC : va_S (jx_A wC αC) s.heap H [] := ⟨hS.1, fun q q1 _ => hS.2.1 q q1 (Nat.not_le.mpr q1), fun y hy => by cases hy⟩
    have hrun := va_runV (R := room_1) (b := αC 1) (As := as.map fun z => Value.int (Int32.ofInt z)) (rest := st) (g := F0 m pc ls ((as.map fun z => Value.int (Int32.ofInt z)).reverse ++ (.ref (αC 1) :: st))) (H := H) (locs := []) (cells := lq_n) (slots := lq_m) (below := below) (meth := meth) (e := e) (C := hd.1.cls) (n := as.length) ⟨hx, hb, hml, hown, hts⟩ hMet
      ⟨callB_of as.length hts (jx_goodw hok) rfl rfl rfl (hts _ hini) (hts _ hlk) ⟨hnotMH.1, hnotMH.2, hdesc⟩ ⟨by show d + 1 ≤ 2048; omega, by show 8 + (hd.2.2.1 + 11) + 100 * d ≤ 84000; omega⟩, hts _ hins, hts _ hsel⟩
      ⟨jx_blind, hrc, fun U hU hWm => ⟨by rw [List.map_cons, hAs, show jx_cv αC (vr 1) = .ref (αC 1) from jx_ref αC (by decide)], by rw [hU]; exact hP, va_K.moved hWm.alike hK, apC, hEC.call hSC hWm hU⟩⟩
      rfl (by simp) hl.1 rfl (lv_room hst) hdg ⟨by decide, by decide⟩
    refine jx_callG (A0 := fun q => s.heap.size ≤ q) hrun hS (fun q ⟨k, hk, e9⟩ => by rw [e9]; exact hC k hk) (fun z h' H1 locs1 hk hP1 hz1 ho1 hS1 => ?_)
    refine va_forget (fun y hy => hS1.2.2 y hy) ?_
    exact (kk z h' hk).a H1 ls hP1 (hM.kept fun k q hq => ho1 q.1 ((hM k q hq).lt) fun ⟨k2, hk2, e9⟩ => by
      obtain ⟨k3, hk3, e8⟩ := List.mem_map.mp (List.mem_of_getElem? hq)
      have e7 : αM k3 = αC k2 := by rw [← e9, ← e8]
      exact hCM k2 hk2 k3 hk3 e7.symm) ⟨hS1.1, hS1.2.1, fun y hy => by cases hy⟩ hl
theorem lq_callM (X : lq_Ctx p s m meth c b L xs D tA αC αM) {n d : Nat} {hd : jx_Hd} {as : List Int} {K : Int → jx_H → Prop} (hdg : decode code pc = .ok (.invokevirtual n, 3)) (hlk : Cond.methodLink R_law n hd.1 ∈ jx_T) (h11 : hd.2.2.2.2.2.2.1 = 12) (hcl : hd.1.cls = jx_Rn 12) (ha : hd.2.2.2.2.1 = as.length + 1) (hd9 : d ≤ 100) (C : jx_Cal wM d hd (vr 1 :: as.map vi) g K) (hst : (st.map fun v => v.category).sum ≤ 8)
    (kk : ∀ z h', K z h' → lq_G p l e s m below meth c Q b D tA αC αM (pc + 3) ((jx_ro αM hd.2.2.2.2.2.1 z).toList ++ st) i h h') : lq_G p l e s m below meth c Q b D tA αC αM pc ((as.map fun z => Value.int (Int32.ofInt z)).reverse ++ (.ref (αM 1) :: st)) i h g := by
  refine ⟨(), fun H ls hP hM hS hl => ?_⟩
  obtain ⟨⟨hx, hb, hr, hml, hown, hts, hX, hbl, hlock⟩, hK, ⟨apC, apM⟩, ⟨hC, hMm, hCM⟩, hEC, hEM⟩ := X
  obtain ⟨hok, hMt⟩ := C
  have hMet := hMt l D tA αM
  obtain ⟨hcode, hini, hkind, hnotMH, hpl, hrt, hmL⟩ := id hok
  rcases hkind with ⟨h99, -, -⟩ | ⟨hlt, hins, hsel, hcn, hpar⟩
  · rw [h11] at h99
    exact absurd h99 (by decide)
  · have hdesc : (parseMethodDescriptor hd.1.desc).map (fun d => d.parameters.length) = some as.length := by
      rw [ha] at hpar
      revert hpar
      cases parseMethodDescriptor hd.1.desc with
      | none => simp
      | some sg => simp
    have hAs : (as.map vi).map (jx_cv αM) = as.map (fun z => Value.int (Int32.ofInt z)) := by
      rw [List.map_map]
      rfl
    obtain ⟨h0, q, r1, hq, hc1, hent, hwl⟩ := jx_obj wM_ok (show jx_ob wM 1 12 from ⟨rfl, rfl⟩) tA αM
    have hrc := va_recv hK hM hc1 (by rw [hwl g, hent g] : (jx_wl tA αM wM g)[q]? = some (αM 1, .inr (12, _)))
    have hcls : r1.1 = hd.1.cls := by
      rw [hcl]
      cases hc1
      rfl
    rw [hcls] at hrc
    have hSC : va_S (jx_A wM αM) s.heap H [] := ⟨hS.1, fun q q1 _ => hS.2.1 q q1 (Nat.not_le.mpr q1), fun y hy => by cases hy⟩
    have hrun := va_runV (R := room_1) (b := αM 1) (As := as.map fun z => Value.int (Int32.ofInt z)) (rest := st) (g := F0 m pc ls ((as.map fun z => Value.int (Int32.ofInt z)).reverse ++ (.ref (αM 1) :: st))) (H := H) (locs := []) (cells := lq_n) (slots := lq_m) (below := below) (meth := meth) (e := e) (C := hd.1.cls) (n := as.length) ⟨hx, hb, hml, hown, hts⟩ hMet
      ⟨callB_of as.length hts (jx_goodw hok) rfl rfl rfl (hts _ hini) (hts _ hlk) ⟨hnotMH.1, hnotMH.2, hdesc⟩ ⟨by show d + 1 ≤ 2048; omega, by show 8 + (hd.2.2.1 + 11) + 100 * d ≤ 84000; omega⟩, hts _ hins, hts _ hsel⟩
      ⟨jx_blind, hrc, fun U hU hWm => ⟨by rw [List.map_cons, hAs, show jx_cv αM (vr 1) = .ref (αM 1) from jx_ref αM (by decide)], by rw [hU]; exact hM, va_K.moved hWm.alike hK, apM, hEM.call hSC hWm hU⟩⟩
      rfl (by simp) hl.1 rfl (lv_room hst) hdg ⟨by decide, by decide⟩
    refine jx_callG (A0 := fun q => s.heap.size ≤ q) hrun hS (fun q ⟨k, hk, e9⟩ => by rw [e9]; exact hMm k hk) (fun z h' H1 locs1 hk hP1 hz1 ho1 hS1 => ?_)
    refine va_forget (fun y hy => hS1.2.2 y hy) ?_
    exact (kk z h' hk).a H1 ls (hP.kept fun k q hq => ho1 q.1 ((hP k q hq).lt) fun ⟨k2, hk2, e9⟩ => by
      obtain ⟨k3, hk3, e8⟩ := List.mem_map.mp (List.mem_of_getElem? hq)
      have e7 : αC k3 = αM k2 := by rw [← e9, ← e8]
      exact hCM k3 hk3 k2 hk2 e7) hP1 ⟨hS1.1, hS1.2.1, fun y hy => by cases hy⟩ hl
/-- what a call of the law is made of -/
def lq_row (pc p1 n1 p2 n2 : Nat) : Bool := decide (decode code pc = .ok (.aload_n 1, 1)) && (decide (decode code p1 = .ok (.invokevirtual n1, 3)) && (decide (decode code (p1 + 3) = .ok (.aload_n 2, 1)) && decide (decode code p2 = .ok (.invokevirtual n2, 3))))
def lq_hd (hd : jx_Hd) (o n : Nat) : Prop := hd.2.2.2.2.2.2.1 = o ∧ hd.1.cls = jx_Rn o ∧ hd.2.2.2.2.1 = n + 1
theorem lq_case (X : lq_Ctx p s m meth c b L xs D tA αC αM) {p1 n1 p2 n2 d1 d2 : Nat} {hC hM : jx_Hd} {as : List Int} {KC KM : Int → jx_H → Prop} (row : lq_row pc p1 n1 p2 n2 = true) (q1 : lq_push p l e s m below meth c Q b D tA αC αM i (pc + 1) p1 as) (q2 : lq_push p l e s m below meth c Q b D tA αC αM i (p1 + 4) p2 as) (k1 : Cond.methodLink R_law n1 hC.1 ∈ jx_T) (k2 : Cond.methodLink R_law n2 hM.1 ∈ jx_T) (t1 : lq_hd hC 11 as.length) (t2 : lq_hd hM 12 as.length) (r1 : hC.2.2.2.2.2.1 = 1 ∨ hC.2.2.2.2.2.1 = 4 ∨ hC.2.2.2.2.2.1 = 2) (D1 : d1 ≤ 100) (D2 : d2 ≤ 100) (C : jx_Cal wC d1 hC (vr 1 :: as.map vi) h KC) (M : jx_Cal wM d2 hM (vr 1 :: as.map vi) g KM)
    (kk : ∀ z h' z' g', KC z h' → KM z' g' → lq_G p l e s m below meth c Q b D tA αC αM (p2 + 3) ((jx_ro αM hM.2.2.2.2.2.1 z').toList ++ ((jx_ro αC hC.2.2.2.2.2.1 z).toList ++ [])) i h' g') : lq_G p l e s m below meth c Q b D tA αC αM pc [] i h g := by
  unfold lq_row at row
  simp only [Bool.and_eq_true, decide_eq_true_eq] at row
  obtain ⟨a1, a2, a3, a4⟩ := row
  refine ⟨(), fun H ls hP hM hS hl => ?_⟩
  refine lv_aload_n X.1.1 X.1.2.1 a1 rfl (lv_at hl 1 rfl) ?_
  refine (q1 [.ref (αC 1)] h g ?_).a H ls hP hM hS hl
  refine lq_callC X a2 k1 t1.1 t1.2.1 t1.2.2 D1 C (by show 0 ≤ 8; decide) fun z h' hk => ⟨(), fun H ls hP hM hS hl => ?_⟩
  refine lv_aload_n X.1.1 X.1.2.1 a3 rfl (lv_at hl 2 rfl) ?_
  refine (q2 (.ref (αM 1) :: ((jx_ro αC hC.2.2.2.2.2.1 z).toList ++ [])) h' g ?_).a H ls hP hM hS hl
  refine lq_callM X a4 k2 t2.1 t2.2.1 t2.2.2 D2 M ?_ fun z' g' hk' => kk z h' z' g' hk hk'
  rcases r1 with r | r | r <;> rw [r]
  · exact (Nat.le_of_ble_eq_true rfl : 1 ≤ 8)
  · exact (Nat.le_of_ble_eq_true rfl : 1 ≤ 8)
  · exact (Nat.le_of_ble_eq_true rfl : 2 ≤ 8)
/-- both have answered alike -/
theorem lq_endI (X : lq_Ctx p s m meth c b L xs D tA αC αM) {off : Int} {x y : Int32} (a : decode code pc = .ok (.if_icmp .eq off, 3)) (ho : (pc : Int) + off = ((1575 : Nat) : Int)) (hxy : x = y) (kk : lq_G p l e s m below meth c Q b D tA αC αM 1575 [] i h g) : lq_G p l e s m below meth c Q b D tA αC αM pc [.int y, .int x] i h g := ⟨(), fun H ls hP hM hS hl => lv_icmp_eq (tgt := 1575) X.1.1 X.1.2.1 a ho (fun _ => kk.a H ls hP hM hS hl) (fun z => absurd hxy z)⟩
theorem lq_endL (X : lq_Ctx p s m meth c b L xs D tA αC αM) {off : Int} {x y : Int64} (a : decode code pc = .ok (.lcmp, 1)) (a2 : decode code (pc + 1) = .ok (.ifCond .eq off, 3)) (ho : ((pc + 1 : Nat) : Int) + off = ((1575 : Nat) : Int)) (hxy : x = y) (kk : lq_G p l e s m below meth c Q b D tA αC αM 1575 [] i h g) : lq_G p l e s m below meth c Q b D tA αC αM pc [.long y, .long x] i h g := by
  subst hxy
  refine ⟨(), fun H ls hP hM hS hl => ?_⟩
  refine W.lcmp X.1.1 X.1.2.1 a ?_
  have e0 : lg_cmp x x = 0 := by
    unfold lg_cmp
    simp
  rw [e0]
  exact lv_if_eq (tgt := 1575) X.1.1 X.1.2.1 a2 ho (fun _ => kk.a H ls hP hM hS hl) (fun z => absurd rfl z)
end LQ
theorem Al_rf (m : jx_H) : Al m m := fun _ _ => rfl
theorem Al_2 {m m2 : jx_H} (h : A2 m m2) : Al m m2 := fun a ha => h a (by omega) (by omega)
