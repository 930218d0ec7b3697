/-! the check of a method's table, and: what one instruction asks is enough for the machine -/
def jx_len : Instr → Nat
  | .bipush _ => 2
  | .sipush _ => 3
  | .ldc _ => 2
  | .ldc_w _ => 3
  | .ldc2_w _ => 3
  | .iload _ => 2
  | .lload _ => 2
  | .aload _ => 2
  | .istore _ => 2
  | .lstore _ => 2
  | .astore _ => 2
  | .iinc _ _ => 3
  | .goto _ => 3
  | .ifCond _ _ => 3
  | .if_icmp _ _ => 3
  | .getfield _ => 3
  | .getstatic _ => 3
  | .putfield _ => 3
  | .invokevirtual _ => 3
  | .invokestatic _ => 3
  | .invokespecial _ => 3
  | .new _ => 3
  | .newarray _ => 2
  | .anewarray _ => 3
  | .multianewarray _ _ => 4
  | _ => 1
def jx_chi (o nL pc : Nat) (i : Instr) (q : jx_R) : Bool := match i with
  | .bipush n => decide ((Int8.ofInt n).toInt32 = Int32.ofInt n)
  | .sipush n => decide ((Int16.ofInt n).toInt32 = Int32.ofInt n)
  | .ldc n => (match q with | .inl (_, _, 0, z) => jx_CL.any (fun r => decide (r.1 = o ∧ r.2.1 = n ∧ r.2.2.1 = z)) | .inl (_, _, 3, z) => jx_SL.any (fun r => decide (r.1 = o ∧ r.2.1 = n ∧ r.2.2.1 = z)) | _ => true)
  | .ldc_w n => (match q with | .inl (_, _, 0, z) => jx_CL.any (fun r => decide (r.1 = o ∧ r.2.1 = n ∧ r.2.2.1 = z)) | _ => true)
  | .ldc2_w n => (match q with | .inl (_, _, 0, z) => jx_CLL.any (fun r => decide (r.1 = o ∧ r.2.1 = n ∧ r.2.2.1 = z)) | _ => true)
  | .istore n => decide (n < nL)
  | .istore_n n => decide ((n : Nat) < nL)
  | .astore n => decide (n < nL)
  | .astore_n n => decide ((n : Nat) < nL)
  | .lstore n => decide (n + 1 < nL)
  | .lstore_n n => decide ((n : Nat) + 1 < nL)
  | .iinc n _ => decide (n < nL)
  | .goto off => decide (0 ≤ (pc : Int) + off)
  | .ifCond _ off => decide (0 ≤ (pc : Int) + off)
  | .if_icmp _ off => decide (0 ≤ (pc : Int) + off)
  | .tableswitch d lo hi offs => decide (0 ≤ (pc : Int) + d) && (offs.toList.all (fun f => decide (0 ≤ (pc : Int) + f)) && decide (hi + 1 = lo + (offs.toList.length : Int)))
  | .lookupswitch d ps => decide (0 ≤ (pc : Int) + d) && (ps.toList.all (fun f => decide (0 ≤ (pc : Int) + f.2)) && (ps.toList.zip (ps.toList.drop 1)).all (fun (a, next) => a.1 < next.1))
  | .getstatic n => (match q with | .inl (1, _, _, _) => decide (o = 16 ∧ n = 38) | .inl (2, _, _, _) => decide (o = 16 ∧ n = 1053) | _ => true)
  | .getfield n => (match q with | .inl (16, 0, _, _) => decide (o = 16 ∧ n = 9) | .inl (16, 1, _, _) => decide (o = 16 ∧ n = 15) | .inl (c, k, t, z) => jx_FL.any (fun r => decide (r.1 = o ∧ r.2.1 = n ∧ r.2.2.1 = c ∧ r.2.2.2.1 = k)) && decide (z = (k : Int) ∧ t = jx_tag (jx_ft c k) ∧ t ≠ 0) | _ => true)
  | .putfield n => (match q with | .inl (c, k, t, z) => jx_FL.any (fun r => decide (r.1 = o ∧ r.2.1 = n ∧ r.2.2.1 = c ∧ r.2.2.2.1 = k)) && (decide (z = (k : Int) ∧ t = jx_tag (jx_ft c k)) && (match vwCl[c]? with | some r => !(r.2.1 k).2.2.2 | none => false)) | _ => true)
  | .invokevirtual n => (match q with | .inr hd => jx_ML.any (fun r => decide (r.1 = o ∧ r.2.1 = n ∧ r.2.2.1 = hd.1)) | _ => true)
  | .invokestatic n => (match q with | .inr hd => jx_ML.any (fun r => decide (r.1 = o ∧ r.2.1 = n ∧ r.2.2.1 = hd.1)) || jx_NL.any (fun r => decide (r.1 = o ∧ r.2.1 = n ∧ r.2.2 = hd.1)) | .inl (m, _, _, _) => decide (m = 0) || jx_JL.any (fun r => decide (r.1 = o ∧ r.2.1 = n ∧ r.2.2.1 = m)))
  | _ => true
def jx_isw : Instr → Bool
  | .tableswitch _ _ _ _ => true
  | .lookupswitch _ _ => true
  | _ => false
def jx_chk (o nL : Nat) (bs : ByteArray) (e : jx_En) : Bool := decide (decode bs e.1 = .ok (e.2.1, e.2.2.1)) && (jx_chi o nL e.1 e.2.1 e.2.2.2 && (decide (e.2.2.1 = jx_len e.2.1) || jx_isw e.2.1))
def jx_chain : List jx_En → Bool
  | [] => true
  | e :: r => (match r with | [] => true | e2 :: _ => decide (e2.1 = e.1 + e.2.2.1)) && jx_chain r
def jx_tab (o : Nat) (hd : jx_Hd) (T : List jx_En) : Bool := T.all (jx_chk o hd.2.2.1 hd.2.1) && (jx_chain T && (decide ((T.map (fun q => q.1)).Nodup) && decide (jx_Rn o = hd.1.cls)))
def jx_Ctx (p : Program) (s : State) (m : MethodId) (args : Array Value) (meth : Method) (c : Code) (o : Nat) (hd : jx_Hd) (w : jx_Wd) (D : va_G) (tA : Nat → ClassId) (α : Int → Nat) : Prop :=
  p.tables.exec = Jvm.exec ∧ c.code = hd.2.1 ∧ meth.sig.returnType = hd.2.2.2.1 ∧ c.maxLocals = hd.2.2.1 ∧ s.vm.findClass (jx_Rn o) = some m.cls ∧ (∀ x ∈ jx_T, x.before args s = true) ∧ meth.locks = false ∧ va_K D vwCl (jx_tys tA) s ∧ jx_apart w α ∧ jx_E α (jx_A w α) s s.heap ∧ jx_Wok w
def jx_cl (α : Int → Nat) (lv : jx_L) : List (Nat × Value) := lv.map fun q => (q.1, jx_cv α q.2)
section JS
variable {p : Program} {l : Launch} {e : Env} {s : State} {m : MethodId} {args : Array Value} {below : List Frame} {meth : Method} {c : Code} {Q : State → Prop}
variable {o d : Nat} {hd : jx_Hd} {w : jx_Wd} {D : va_G} {tA : Nat → ClassId} {α : Int → Nat}
def jx_Gd (p : Program) (l : Launch) (e : Env) (s : State) (m : MethodId) (args : Array Value) (below : List Frame) (meth : Method) (c : Code) (Q : State → Prop) (R : Room) (cn sn : Nat) (hd : jx_Hd) (w : jx_Wd) (D : va_G) (tA : Nat → ClassId) (α : Int → Nat) : Nat → jx_L → List jx_V → jx_H → Prop :=
  fun pc lv st h => ∀ (H : Heap) (locs : List Loc) (ls : Array Slot), va_P D vwCl (jx_wl tA α w h) H → va_S (jx_A w α) s.heap H locs → lv_has ls hd.2.2.1 (jx_cl α lv) → W p l e R s m args below meth c H locs cn sn Q (F0 m pc ls (st.map (jx_cv α)))
theorem jx_lk_mem : ∀ {lv : jx_L} {n : Nat} {v : jx_V}, jx_lk lv n = some v → (n, v) ∈ lv
  | [], _, _, h => by cases h
  | q :: r, n, v, h => by
    unfold jx_lk at h
    split at h
    · rename_i hq; cases h; subst hq; exact List.mem_cons_self
    · exact List.mem_cons_of_mem _ (jx_lk_mem h)
theorem jx_has {ls : Array Slot} {nL : Nat} {lv : jx_L} {n : Nat} {v : jx_V} (hl : lv_has ls nL (jx_cl α lv)) (h : jx_lk lv n = some v) : ls[n]? = some (.val (jx_cv α v)) :=
  hl.2.2 (n, jx_cv α v) (List.mem_map.mpr ⟨(n, v), jx_lk_mem h, rfl⟩)
theorem jx_up_mem {n : Nat} {v : jx_V} : ∀ {lv : jx_L} {q : Nat × jx_V}, q ∈ jx_up n v lv → q = (n, v) ∨ (q ∈ lv ∧ q.1 ≠ n)
  | [], q, h => by cases h
  | a :: r, q, h => by
    unfold jx_up at h
    rcases List.mem_cons.mp h with h | h
    · split at h
      · exact Or.inl h
      · rename_i hq; exact Or.inr ⟨by rw [h]; exact List.mem_cons_self, by rw [h]; exact hq⟩
    · rcases jx_up_mem h with h | h
      · exact Or.inl h
      · exact Or.inr ⟨List.mem_cons_of_mem _ h.1, h.2⟩
theorem jx_ls_mem {n : Nat} {v : jx_V} : ∀ {lv : jx_L} {q : Nat × jx_V}, q ∈ jx_ls n v lv → q = (n, v) ∨ (q ∈ lv ∧ q.1 ≠ n)
  | [], q, h => Or.inl (List.mem_singleton.mp h)
  | a :: r, q, h => by
    unfold jx_ls at h
    split at h
    · rcases List.mem_cons.mp h with h | h
      · exact Or.inl h
      · rcases jx_up_mem h with h | h
        · exact Or.inl h
        · exact Or.inr ⟨List.mem_cons_of_mem _ h.1, h.2⟩
    · rename_i ha
      rcases List.mem_cons.mp h with h | h
      · exact Or.inr ⟨by rw [h]; exact List.mem_cons_self, by rw [h]; exact ha⟩
      · rcases jx_ls_mem h with h | h
        · exact Or.inl h
        · exact Or.inr ⟨List.mem_cons_of_mem _ h.1, h.2⟩
theorem jx_lc_mem {n : Nat} {b : Bool} : ∀ {lv : jx_L} {q : Nat × jx_V}, q ∈ jx_lc n b lv → q ∈ lv ∧ ¬ ((q.1 + 1 = n ∧ jx_is2 q.2 = true) ∨ (b = true ∧ q.1 = n + 1))
  | [], q, h => by cases h
  | a :: r, q, h => by
    unfold jx_lc at h
    split at h
    · exact ⟨List.mem_cons_of_mem _ (jx_lc_mem h).1, (jx_lc_mem h).2⟩
    · rename_i ha
      rcases List.mem_cons.mp h with h | h
      · exact ⟨by rw [h]; exact List.mem_cons_self, by rw [h]; exact ha⟩
      · exact ⟨List.mem_cons_of_mem _ (jx_lc_mem h).1, (jx_lc_mem h).2⟩
theorem jx_pick_mem {lv : jx_L} : ∀ {keep : List Nat} {q : Nat × jx_V}, q ∈ jx_pick lv keep → q ∈ lv
  | [], q, h => by cases h
  | n :: r, q, h => by
    unfold jx_pick at h
    split at h
    · rename_i v hv
      rcases List.mem_cons.mp h with h | h
      · rw [h]; exact jx_lk_mem hv
      · exact jx_pick_mem h
    · exact jx_pick_mem h
theorem jx_cat (v : jx_V) : (jx_cv α v).category = if jx_is2 v then 2 else 1 := by
  rcases v with z | z | z
  · rfl
  · rfl
  · show (va_rf (jx_opt α z)).category = 1
    cases jx_opt α z <;> rfl
theorem jx_has.sub {ls : Array Slot} {nL : Nat} {l l' : List (Nat × Value)} (h : lv_has ls nL l) (hs : ∀ q ∈ l', q ∈ l) : lv_has ls nL l' := ⟨h.1, h.2.1, fun q hq => h.2.2 q (hs q hq)⟩
theorem jx_sto1 {ls : Array Slot} {nL n : Nat} {lv : jx_L} {v : jx_V} (h : lv_has ls nL ((n, jx_cv α v) :: (jx_cl α lv).filter (fun q => !(q.1 == n) && !(q.1 + 1 == n && q.2.category == 2)))) : lv_has ls nL (jx_cl α (jx_ls n v (jx_lc n false lv))) := by
  refine jx_has.sub h fun q hq => ?_
  obtain ⟨a, ha, rfl⟩ := List.mem_map.mp hq
  rcases jx_ls_mem ha with rfl | ⟨h1, h2⟩
  · exact List.mem_cons_self
  · obtain ⟨h3, h4⟩ := jx_lc_mem h1
    refine List.mem_cons_of_mem _ (List.mem_filter.mpr ⟨List.mem_map.mpr ⟨a, h3, rfl⟩, ?_⟩)
    have hc := jx_cat (α := α) a.2
    cases h5 : jx_is2 a.2 <;> simp_all
theorem jx_sto2 {ls : Array Slot} {nL n : Nat} {lv : jx_L} {v : jx_V} (h : lv_has ls nL ((n, jx_cv α v) :: (jx_cl α lv).filter (fun q => !(q.1 == n) && (!(q.1 == n + 1) && !(q.1 + 1 == n && q.2.category == 2))))) : lv_has ls nL (jx_cl α (jx_ls n v (jx_lc n true lv))) := by
  refine jx_has.sub h fun q hq => ?_
  obtain ⟨a, ha, rfl⟩ := List.mem_map.mp hq
  rcases jx_ls_mem ha with rfl | ⟨h1, h2⟩
  · exact List.mem_cons_self
  · obtain ⟨h3, h4⟩ := jx_lc_mem h1
    refine List.mem_cons_of_mem _ (List.mem_filter.mpr ⟨List.mem_map.mpr ⟨a, h3, rfl⟩, ?_⟩)
    have hc := jx_cat (α := α) a.2
    cases h5 : jx_is2 a.2 <;> simp_all
theorem jx_ref (α : Int → Nat) {x : Int} (h : 0 ≤ x) : jx_cv α (vr x) = .ref (α x) := by
  show va_rf (jx_opt α x) = _
  unfold jx_opt
  rw [if_neg (by omega)]
  rfl
end JS
