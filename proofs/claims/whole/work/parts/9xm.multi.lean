/-! growing worlds: rows of rows at once -/
def adR (P : Int → Bool) (b n : Int) : Int → Bool := fun k => P k || decide (b ≤ k ∧ k < b + n)
theorem adR_iff {P : Int → Bool} {b n k : Int} : adR P b n k = true ↔ P k = true ∨ (b ≤ k ∧ k < b + n) := by
  unfold adR
  rw [Bool.or_eq_true, decide_eq_true_eq]
theorem adR_0 {P : Int → Bool} {b : Int} : adR P b 0 = P := funext fun k => by
  have : ¬ (b ≤ k ∧ k < b + 0) := by omega
  unfold adR
  rw [decide_eq_false this, Bool.or_false]
theorem adR_s {P : Int → Bool} {b n : Int} (h : 0 ≤ n) : ad (adR P b n) (b + n) = adR P b (n + 1) := funext fun k => by
  rw [Bool.eq_iff_iff, ad_iff, adR_iff, adR_iff]
  constructor
  · rintro ((x | x) | x)
    · exact Or.inl x
    · exact Or.inr (by omega)
    · exact Or.inr (by omega)
  · rintro (x | x)
    · exact Or.inl (Or.inl x)
    · by_cases e : k = b + n
      · exact Or.inr e
      · exact Or.inl (Or.inr (by omega))
/-- a row of references to n cells from b on -/
def mulH (h : jx_H) (a b n : Int) : jx_H := fun k j => if k = a ∧ 0 ≤ j ∧ j < n then b + j else h k j
theorem mulH_s {h : jx_H} {a b n : Int} (hn : 0 ≤ n) : hu (mulH h a b n) a n (b + n) = mulH h a b (n + 1) := by
  funext k j
  unfold hu mulH
  by_cases e : k = a ∧ j = n
  · rw [if_pos e, if_pos ⟨e.1, by omega, by omega⟩, e.2]
  · rw [if_neg e]
    by_cases e2 : k = a ∧ 0 ≤ j ∧ j < n
    · rw [if_pos e2, if_pos ⟨e2.1, by omega, by omega⟩]
    · rw [if_neg e2, if_neg fun z => e2 ⟨z.1, z.2.1, by
        have : ¬ j = n := fun y => e ⟨z.1, y⟩
        omega⟩]
theorem mulH_0 {h : jx_H} {a b : Int} : mulH h a b 0 = h := by
  funext k j
  unfold mulH
  rw [if_neg (by omega)]
theorem mulH_ne {h : jx_H} {a b n k : Int} (hk : k ≠ a) : mulH h a b n k = h k := by
  funext j
  unfold mulH
  rw [if_neg fun z => hk z.1]
theorem hu_rwB {h : jx_H} {k i v b : Int} (hb : b ≠ k) : hu h k i v b = h b := by
  funext j
  unfold hu
  rw [if_neg fun z => hb z.1]
/-- a row filled -/
def flH (h : jx_H) (a n v : Int) : jx_H := fun k j => if k = a ∧ 0 ≤ j ∧ j < n then v else h k j
theorem flH_ne {h : jx_H} {a n v k : Int} (hk : k ≠ a) : flH h a n v k = h k := by
  funext j
  unfold flH
  rw [if_neg fun z => hk z.1]
theorem jm_cg {cI : ClassId} {N : Nat} {f g : Nat → Value} (h : ∀ j, j < N → f j = g j) : arrV cI N f = arrV cI N g := by
  unfold arrV
  rw [show (fun (j : Fin N) => f j.val) = fun (j : Fin N) => g j.val from funext fun j => h j.val j.isLt]
/-- the addresses with the new ones -/
def jm_al (α : Int → Nat) (a b n : Int) (z : Nat) : Int → Nat := fun k => if k = a then z else if b ≤ k ∧ k < b + n then z + 1 + (k - b).toNat else α k
theorem jm_al_o {α : Int → Nat} {a b n : Int} {z : Nat} {k : Int} (h1 : k ≠ a) (h2 : ¬ (b ≤ k ∧ k < b + n)) : jm_al α a b n z k = α k := by
  unfold jm_al
  rw [if_neg h1, if_neg h2]
theorem jm_al_b {α : Int → Nat} {a b n : Int} {z : Nat} {k : Int} (h1 : a < b) (h2 : b ≤ k ∧ k < b + n) : jm_al α a b n z k = z + 1 + (k - b).toNat := by
  unfold jm_al
  rw [if_neg (show k ≠ a by omega), if_pos h2]
theorem jm_al_a {α : Int → Nat} {a b n : Int} {z : Nat} : jm_al α a b n z a = z := if_pos rfl
section JBM
variable {p : Program} {l : Launch} {e : Env} {s : State} {m : MethodId} {args : Array Value} {below : List Frame} {meth : Method} {c : Code} {Q : State → Prop}
variable {o d cn sn : Nat} {R : Room} {hd : jx_Hd} {sg : List jx_Sg} {D : va_G} {tA : Nat → ClassId} {α0 : Int → Nat} {P0 P : Int → Bool} {pc : Nat} {lv : jx_L} {st : List jx_V} {h : jx_H}
theorem jm_P {a b n k : Int} : adR (ad P a) b n k = true ↔ P k = true ∨ k = a ∨ (b ≤ k ∧ k < b + n) := by
  rw [adR_iff, ad_iff]
  constructor
  · rintro ((x | x) | x)
    · exact Or.inl x
    · exact Or.inr (Or.inl x)
    · exact Or.inr (Or.inr x)
  · rintro (x | x | x)
    · exact Or.inl (Or.inl x)
    · exact Or.inl (Or.inr x)
    · exact Or.inr x
theorem jm_alok {α : Int → Nat} {a b n : Int} {H : Heap} (hal : jb_al s sg α0 P0 P α) (hP : va_P D vwCl (jx_wl tA α (wP sg P) h) H) (hs : s.heap.size ≤ H.size) (ha : ¬ P a = true) (hb : ∀ j : Int, 0 ≤ j → j < n → ¬ P (b + j) = true) (a0 : 0 ≤ a ∧ a < b) (b0 : b + n ≤ 1000) (n0 : 0 ≤ n) : jb_al s sg α0 P0 (adR (ad P a) b n) (jm_al α a b n H.size) := by
  obtain ⟨c1, c2, c3, c4⟩ := hal
  have hr : ∀ k, P k = true → k ≠ a ∧ ¬ (b ≤ k ∧ k < b + n) := fun k hk => ⟨fun z => ha (by rw [← z]; exact hk), fun z => hb (k - b) (by omega) (by omega) (by rw [show b + (k - b) = k by omega]; exact hk)⟩
  have lt : ∀ k, k ∈ jx_ids sg → P k = true → α k < H.size := fun k h1 h2 => wl_lt hP (wP_mem.mpr ⟨h1, h2⟩)
  refine ⟨fun k hk => ?_, fun k hi hk => ?_, fun k hk k' hk' e => ?_, fun k hk => jm_P.mpr (Or.inl (c4 k hk))⟩
  · have q : k ≠ a ∧ ¬ (b ≤ k ∧ k < b + n) := by
      rcases hk with y | y
      · exact hr k (c4 k y)
      · exact ⟨by omega, by omega⟩
    rw [jm_al_o q.1 q.2]
    exact c1 k hk
  · rcases jm_P.mp hk with y | y | y
    · have q := hr k y
      rw [jm_al_o q.1 q.2]
      exact c2 k hi y
    · subst y
      rw [jm_al_a]
      exact Or.inr hs
    · rw [jm_al_b a0.2 y]
      exact Or.inr (by omega)
  · obtain ⟨k1, k2⟩ := wP_mem.mp hk
    obtain ⟨k3, k4⟩ := wP_mem.mp hk'
    rcases jm_P.mp k2 with y | y | y <;> rcases jm_P.mp k4 with y' | y' | y'
    · rw [jm_al_o (hr k y).1 (hr k y).2, jm_al_o (hr k' y').1 (hr k' y').2] at e
      exact c3 k (wP_mem.mpr ⟨k1, y⟩) k' (wP_mem.mpr ⟨k3, y'⟩) e
    · subst y'
      rw [jm_al_o (hr k y).1 (hr k y).2, jm_al_a] at e
      have := lt k k1 y
      omega
    · rw [jm_al_o (hr k y).1 (hr k y).2, jm_al_b a0.2 y'] at e
      have := lt k k1 y
      omega
    · subst y
      rw [jm_al_a, jm_al_o (hr k' y').1 (hr k' y').2] at e
      have := lt k' k3 y'
      omega
    · rw [y, y']
    · subst y
      rw [jm_al_a, jm_al_b a0.2 y'] at e
      omega
    · rw [jm_al_b a0.2 y, jm_al_o (hr k' y').1 (hr k' y').2] at e
      have := lt k' k3 y'
      omega
    · subst y'
      rw [jm_al_b a0.2 y, jm_al_a] at e
      omega
    · rw [jm_al_b a0.2 y, jm_al_b a0.2 y'] at e
      omega
theorem jm_wl {α : Int → Nat} {a b : Int} {N M : Nat} {H H1 : Heap} (hP : va_P D vwCl (jx_wl tA α (wP sg P) h) H) (ha : ¬ P a = true) (hb : ∀ j : Int, 0 ≤ j → j < N → ¬ P (b + j) = true) (a0 : 0 ≤ a ∧ a < b) (ka : jx_kd sg a = (3, 8, N)) (kb : ∀ j : Int, 0 ≤ j → j < N → jx_kd sg (b + j) = (1, 0, M)) (nb : ∀ j : Int, 0 ≤ j → j < N → NewRow sg h (b + j)) (r : RefIn sg P h) (e1 : H1[H.size]? = some (jm_o (tA 8) N H.size N)) (ho : ∀ q : Nat, q < H.size → H1[q]? = H[q]?) (e2 : ∀ j : Nat, j < N → H1[H.size + 1 + j]? = some (jm_i (tA 0) M)) : va_P D vwCl (jx_wl tA (jm_al α a b N H.size) (wP sg (adR (ad P a) b N)) (mulH h a b N)) H1 := by
  have hr : ∀ k, P k = true → k ≠ a ∧ ¬ (b ≤ k ∧ k < b + N) := fun k hk => ⟨fun z => ha (by rw [← z]; exact hk), fun z => hb (k - b) (by omega) (by omega) (by rw [show b + (k - b) = k by omega]; exact hk)⟩
  intro i q hi
  obtain ⟨k, hk, rfl⟩ := List.mem_map.mp (List.mem_of_getElem? hi)
  obtain ⟨k1, k2⟩ := wP_mem.mp hk
  rcases jm_P.mp k2 with y | y | y
  · have q := hr k y
    have x1 : jx_ent tA (jm_al α a b N H.size) (wP sg (adR (ad P a) b N)) (mulH h a b N) k = jx_ent tA (jm_al α a b N H.size) (wP sg (adR (ad P a) b N)) h k := jx_ent_ne fun i => by rw [mulH_ne q.1]
    have x2 : jx_ent tA (jm_al α a b N H.size) (wP sg (adR (ad P a) b N)) h k = jx_ent tA α (wP sg P) h k := by
      rw [ent_P (P' := P) k2 y, ent_al (α := α) y fun j hj h0 => ?_]
      rcases r k y j hj with z | z
      · omega
      · exact jm_al_o (hr _ z).1 (hr _ z).2
    rw [x1, x2, jm_al_o q.1 q.2]
    obtain ⟨i2, hi2⟩ := List.getElem?_of_mem (wP_mem.mpr ⟨k1, y⟩)
    have x := hP i2 (α k, jx_ent tA α (wP sg P) h k) (by unfold jx_wl; rw [List.getElem?_map, hi2]; rfl)
    exact x.kept (ho _ x.lt)
  · subst y
    rw [jm_al_a]
    have hka : (wP sg (adR (ad P k) b N)).2.1 k = (3, 8, N) := by rw [wP_kd k2]; exact ka
    unfold jx_ent
    rw [hka]
    show H1[H.size]? = some (arrV (tA 8) N fun j => va_rf (jx_opt (jm_al α k b N H.size) (mulH h k b N k (j : Int))))
    rw [e1]
    unfold jm_o
    refine congrArg some (jm_cg fun j hj => ?_)
    have e3 : mulH h k b N k (j : Int) = b + j := if_pos ⟨rfl, by omega, by omega⟩
    rw [if_pos hj, e3]
    unfold jx_opt
    rw [if_neg (by omega), jm_al_b a0.2 (by omega), show (b + (j : Int) - b).toNat = j by omega]
  · have hkb : (wP sg (adR (ad P a) b N)).2.1 k = (1, 0, M) := by
      rw [wP_kd k2, ← kb (k - b) (by omega) (by omega), show b + (k - b) = k by omega]
    rw [jm_al_b a0.2 y]
    unfold jx_ent
    rw [hkb]
    show H1[H.size + 1 + (k - b).toNat]? = some (arrV (tA 0) M fun j => .int (Int32.ofInt (mulH h a b N k (j : Int))))
    rw [e2 _ (by omega), mulH_ne (by omega)]
    unfold jm_i
    refine congrArg some (jm_cg fun j hj => ?_)
    have n1 := nb (k - b) (by omega) (by omega) j
    have k3 := kb (k - b) (by omega) (by omega)
    rw [show b + (k - b) = k by omega] at n1 k3
    have z := n1.2 (by unfold rfC; rw [k3]; exact fun q => q)
    rw [z]
    rfl
theorem jm_S {α : Int → Nat} {a b : Int} {N : Nat} {H H1 : Heap} {locs : List Loc} (hS : va_S (jx_A (wP sg P) α) s.heap H locs) (ha : ¬ P a = true) (hb : ∀ j : Int, 0 ≤ j → j < N → ¬ P (b + j) = true) (hsz : H.size ≤ H1.size) (ho : ∀ q : Nat, q < H.size → H1[q]? = H[q]?) : va_S (jx_A (wP sg (adR (ad P a) b N)) (jm_al α a b N H.size)) s.heap H1 locs := by
  have hin : ∀ q, jx_A (wP sg P) α q → jx_A (wP sg (adR (ad P a) b N)) (jm_al α a b N H.size) q := fun q hq => by
    obtain ⟨k, hk, rfl⟩ := hq
    obtain ⟨k1, k2⟩ := wP_mem.mp hk
    refine ⟨k, wP_mem.mpr ⟨k1, jm_P.mpr (Or.inl k2)⟩, ?_⟩
    exact (jm_al_o (fun z => ha (by rw [← z]; exact k2)) (fun z => hb (k - b) (by omega) (by omega) (by rw [show b + (k - b) = k by omega]; exact k2))).symm
  exact ⟨Nat.le_trans hS.1 hsz, fun q q1 q2 => (ho q (Nat.lt_of_lt_of_le q1 hS.1)).trans (hS.2.1 q q1 fun z => q2 (hin q z)), fun q hq => hin _ (hS.2.2 q hq)⟩
theorem jb_multi (X : jb_Ctx p s m args meth c o hd sg D tA α0 P0) {n N M : Nat} {a b i k : Int} (hdg : decode hd.2.1 pc = .ok (.multianewarray n 2, 4)) (hw : Cond.classLink (jx_Rn o) n ("[" ++ (FieldType.array .int).toString) ∈ jx_T ∧ Cond.arrayClass .int ∈ jx_T) (hi : w32 i = N) (hk : w32 k = M) (hN : N ≤ 1000 ∧ M ≤ 1000) (ka : jx_kd sg a = (3, 8, N)) (kb : ∀ j : Int, 0 ≤ j → j < N → jx_kd sg (b + j) = (1, 0, M)) (ha : ¬ P a = true) (hb : ∀ j : Int, 0 ≤ j → j < N → ¬ P (b + j) = true) (a0 : 0 ≤ a ∧ a < b) (b0 : b + N ≤ 1000) (na : NewRow sg h a) (nb : ∀ j : Int, 0 ≤ j → j < N → NewRow sg h (b + j)) (r : RefIn sg P h) (hv : ∀ x, (x = a ∨ (b ≤ x ∧ x < b + N)) → NoV x lv st) (hcn : cn + (1 + N) ≤ R.cells) (hsn : sn + (N + N * M) ≤ R.slots)
    (kk : jb_G p l e s m args below meth c Q R hd sg D tA α0 P0 (adR (ad P a) b N) (cn + (1 + N)) (sn + (N + N * M)) (pc + 4) lv (vr a :: st) (mulH h a b N)) : jb_G p l e s m args below meth c Q R hd sg D tA α0 P0 P cn sn pc lv (vi k :: vi i :: st) h := by
  refine ⟨(), fun α hal H locs ls hP hS hl => ?_⟩
  obtain ⟨hx, hb9, hret, hml, hown, hts, hlk, hK, hE, hsg, -, -⟩ := X
  have n1 : ¬ Int32.ofInt i < 0 := fun q => by have := (i32_lt0 i).mp q; omega
  have n2 : ¬ Int32.ofInt k < 0 := fun q => by have := (i32_lt0 k).mp q; omega
  have q1 : (Int32.ofInt i).toNatClampNeg = N := by have := jx_ix i (by omega); omega
  have q2 : (Int32.ofInt k).toNatClampNeg = M := by have := jx_ix k (by omega); omega
  refine jm_W (n := Int32.ofInt i) (k := Int32.ofInt k) (rest := st.map (jx_cv α)) hx hb9 hown (hts _ hw.1) hE.1.2 (hts _ hw.2) rfl hdg rfl n1 n2 (by omega) (by omega) (by rw [q1]; exact hcn) (by rw [q1, q2]; exact hsn) fun cA cI H1 f1 f2 z1 e1 o1 e2 => ?_
  rw [q1] at z1 e1 e2 ⊢
  rw [q2] at e2 ⊢
  have k8 : s.vm.findClass ("[" ++ (FieldType.array .int).toString) = some (tA 8) := (hK.2 8 (tA 8, jx_et 8) (jx_ty (by omega))).2
  have k0 : s.vm.findClass ("[" ++ FieldType.int.toString) = some (tA 0) := (hK.2 0 (tA 0, jx_et 0) (jx_ty (by omega))).2
  cases f1.symm.trans k8
  cases (show s.vm.findClass ("[" ++ FieldType.int.toString) = some cI from f2).symm.trans k0
  refine W.forget (fun y hy => ?_) ?_
  · obtain ⟨j, -, rfl⟩ := List.mem_map.mp hy
    exact hS.1
  have hva : ∀ z : Int, (∀ x, (x = a ∨ (b ≤ x ∧ x < b + N)) → z ≠ x) → jm_al α a b N H.size z = α z := fun z hz => jm_al_o (hz a (Or.inl rfl)) (fun y => hz z (Or.inr y) rfl)
  have k1 := kk.a _ (jm_alok hal hP hS.1 ha hb a0 b0 (by omega)) H1 locs ls (jm_wl hP ha hb a0 ka kb nb r e1 o1 e2) (jm_S hS ha hb (by omega) o1) (by
    rw [cl_al (α := α) fun q hq z e1 e2 => hva z fun x hx => (hv x hx).1 q hq z e1 e2]
    exact hl)
  rw [List.map_cons, jx_ref _ a0.1, st_al (α := α) fun v hv1 z e1 e2 => hva z fun x hx => (hv x hx).2 v hv1 z e1 e2, jm_al_a] at k1
  exact k1
end JBM
/-- Arrays.fill in any world -/
theorem C_fillG {w : jx_Wd} (hw : jx_Wok w) {h : jx_H} {r v n : Int} {K : Int → jx_H → Prop} (e1 : (w.2.1 r).1 = 1) (e2 : (w.2.1 r).2.1 = 0) (e3 : ((w.2.1 r).2.2 : Int) = n) (r0 : 0 ≤ r) (n0 : 0 ≤ n ∧ n ≤ 100000) (hK : K 0 (flH h r n v)) : jx_Cal w 1 hJ7_fill_53178 [vr r, vi v] h K := by
  have hin : ∀ i, 0 ≤ i → i < n → jx_in w r 1 0 i := fun i i0 i1 => ⟨e1, e2, i0, by rw [e3]; exact i1⟩
  refine jx_body (o := 15) TJ7_fill_53178 hw hJ7_fill_53178_ok TJ7_fill_53178_ok (by omega) (Nat.le_of_ble_eq_true rfl) fun G hG => ?_
  have lp : ∀ (q : Nat) (i : Int), i + q = n → 0 ≤ i → G 5 [(0, vr r), (1, vi v), (2, vi i), (3, vi n)] [] (flH h r i v) := by
    intro q
    induction q with
    | zero =>
      intro i hi i0
      have e : i = n := by omega
      subst e
      have wi : w32 i = i := w32_id (by omega) (by omega)
      refine jx_goR (jx_tab_nd TJ7_fill_53178_ok) (jx_C_mono _ _) hG (fun _ _ _ _ q => q) 60 [(5, [0, 1, 2, 3])] ?_
      repeat' first
        | (with_reducible refine ob_q ?_; simp (disch := omega) only [rvC_now, rvC_kept, rvC_courses, rvC_law, rvC_past, rvC_reader, rvC_taken, rvC_ways, rvC_choice, rvC_wbf, rvC_hbf, rvC_order, rvC_results, rvC_lack0, rvC_cost0, rvC_worth0, rvC_life0, rvC_result0, rvC_owed0, rvC_hand0, rvC_join0, rvC_lack1, rvC_cost1, rvC_worth1, rvC_life1, rvC_result1, rvC_owed1, rvC_hand1, rvC_join1, rvC_texts, rvC_without, rvC_rtext, rvC_rfrom, rvC_rtold, rvC_names, rvC_stack, rvC_pfirms, rvC_pwages, rvC_pheads, rvC_ppaid, rvC_tape, rvC_kinds, rvC_starts, rvC_numbers, rvC_spaid, rvC_sback, rvC_lacked, rvC_over, rvC_best, rvC_chosen, rvC_wcode, rvC_wbegin, rvC_wstop, rvC_into, rvC_acou, rvC_arow0, rvC_arow1, rvC_ahan0, rvC_ahan1, rvC_ajoi0, rvC_ajoi1, rvC_atxt, rvC_tcode, rvC_tbegin, rvC_tstop, inC_row0, inC_row1, obC_cou, obC_han0, obC_han1, obC_joi0, obC_joi1, obC_txt, inC_code, inC_begin, inC_stop, obC_1, obC_2, obC_3, obC_4, obC_5, obC_6, obC_7, obC_8, obC_9, obC_910, inC_wbf, inC_hbf, inC_order, inC_results, inC_lack0, inC_cost0, inC_worth0, inC_life0, inC_result0, inC_lack1, inC_cost1, inC_worth1, inC_life1, inC_result1, inC_rtext, inC_rfrom, inC_rtold, inC_names, inC_stack, inC_pfirms, inC_pwages, inC_pheads, inC_ppaid, inC_tape2, inC_tape3, inC_tape, inC_kinds, inC_starts, inC_numbers, inC_spaid, inC_sback, inC_lacked, inC_over, inC_best, inC_chosen, kdC_row0, kdC_row1, kdC_cou, kdC_han0, kdC_han1, kdC_joi0, kdC_joi1, kdC_txt, kdC_code, kdC_begin, kdC_stop, lenC_courses, tagC_courses, lenC_wbf, tagC_wbf, lenC_hbf, tagC_hbf, lenC_order, tagC_order, lenC_results, tagC_results, lenC_lack0, tagC_lack0, lenC_cost0, tagC_cost0, lenC_worth0, tagC_worth0, lenC_life0, tagC_life0, lenC_result0, tagC_result0, lenC_owed0, tagC_owed0, lenC_hand0, tagC_hand0, lenC_join0, tagC_join0, lenC_lack1, tagC_lack1, lenC_cost1, tagC_cost1, lenC_worth1, tagC_worth1, lenC_life1, tagC_life1, lenC_result1, tagC_result1, lenC_owed1, tagC_owed1, lenC_hand1, tagC_hand1, lenC_join1, tagC_join1, lenC_texts, tagC_texts, lenC_rtext, tagC_rtext, lenC_rfrom, tagC_rfrom, lenC_rtold, tagC_rtold, lenC_names, tagC_names, lenC_stack, tagC_stack, lenC_pfirms, tagC_pfirms, lenC_pwages, tagC_pwages, lenC_pheads, tagC_pheads, lenC_ppaid, tagC_ppaid, lenC_tape, tagC_tape, lenC_kinds, tagC_kinds, lenC_starts, tagC_starts, lenC_numbers, tagC_numbers, lenC_spaid, tagC_spaid, lenC_sback, tagC_sback, lenC_lacked, tagC_lacked, lenC_over, tagC_over, lenC_best, tagC_best, lenC_chosen, tagC_chosen, w32_w32, w32_id, hu_ne, hu_ni, hu_eqo, Int.cast_ofNat_Int, Int.zero_add, Int.add_zero])
        | (with_reducible refine in_q ?_; simp (disch := omega) only [rvC_now, rvC_kept, rvC_courses, rvC_law, rvC_past, rvC_reader, rvC_taken, rvC_ways, rvC_choice, rvC_wbf, rvC_hbf, rvC_order, rvC_results, rvC_lack0, rvC_cost0, rvC_worth0, rvC_life0, rvC_result0, rvC_owed0, rvC_hand0, rvC_join0, rvC_lack1, rvC_cost1, rvC_worth1, rvC_life1, rvC_result1, rvC_owed1, rvC_hand1, rvC_join1, rvC_texts, rvC_without, rvC_rtext, rvC_rfrom, rvC_rtold, rvC_names, rvC_stack, rvC_pfirms, rvC_pwages, rvC_pheads, rvC_ppaid, rvC_tape, rvC_kinds, rvC_starts, rvC_numbers, rvC_spaid, rvC_sback, rvC_lacked, rvC_over, rvC_best, rvC_chosen, rvC_wcode, rvC_wbegin, rvC_wstop, rvC_into, rvC_acou, rvC_arow0, rvC_arow1, rvC_ahan0, rvC_ahan1, rvC_ajoi0, rvC_ajoi1, rvC_atxt, rvC_tcode, rvC_tbegin, rvC_tstop, inC_row0, inC_row1, obC_cou, obC_han0, obC_han1, obC_joi0, obC_joi1, obC_txt, inC_code, inC_begin, inC_stop, obC_1, obC_2, obC_3, obC_4, obC_5, obC_6, obC_7, obC_8, obC_9, obC_910, inC_wbf, inC_hbf, inC_order, inC_results, inC_lack0, inC_cost0, inC_worth0, inC_life0, inC_result0, inC_lack1, inC_cost1, inC_worth1, inC_life1, inC_result1, inC_rtext, inC_rfrom, inC_rtold, inC_names, inC_stack, inC_pfirms, inC_pwages, inC_pheads, inC_ppaid, inC_tape2, inC_tape3, inC_tape, inC_kinds, inC_starts, inC_numbers, inC_spaid, inC_sback, inC_lacked, inC_over, inC_best, inC_chosen, kdC_row0, kdC_row1, kdC_cou, kdC_han0, kdC_han1, kdC_joi0, kdC_joi1, kdC_txt, kdC_code, kdC_begin, kdC_stop, lenC_courses, tagC_courses, lenC_wbf, tagC_wbf, lenC_hbf, tagC_hbf, lenC_order, tagC_order, lenC_results, tagC_results, lenC_lack0, tagC_lack0, lenC_cost0, tagC_cost0, lenC_worth0, tagC_worth0, lenC_life0, tagC_life0, lenC_result0, tagC_result0, lenC_owed0, tagC_owed0, lenC_hand0, tagC_hand0, lenC_join0, tagC_join0, lenC_lack1, tagC_lack1, lenC_cost1, tagC_cost1, lenC_worth1, tagC_worth1, lenC_life1, tagC_life1, lenC_result1, tagC_result1, lenC_owed1, tagC_owed1, lenC_hand1, tagC_hand1, lenC_join1, tagC_join1, lenC_texts, tagC_texts, lenC_rtext, tagC_rtext, lenC_rfrom, tagC_rfrom, lenC_rtold, tagC_rtold, lenC_names, tagC_names, lenC_stack, tagC_stack, lenC_pfirms, tagC_pfirms, lenC_pwages, tagC_pwages, lenC_pheads, tagC_pheads, lenC_ppaid, tagC_ppaid, lenC_tape, tagC_tape, lenC_kinds, tagC_kinds, lenC_starts, tagC_starts, lenC_numbers, tagC_numbers, lenC_spaid, tagC_spaid, lenC_sback, tagC_sback, lenC_lacked, tagC_lacked, lenC_over, tagC_over, lenC_best, tagC_best, lenC_chosen, tagC_chosen, w32_w32, w32_id, hu_ne, hu_ni, hu_eqo, Int.cast_ofNat_Int, Int.zero_add, Int.add_zero]; omega)
        | apply And.intro
        | with_reducible assumption
        | (first
            | (intro hc; (try simp (disch := omega) only [w8_w8, Int.add_sub_cancel, tdiv_e, tmod_e, hu_ne, hu_ni, hu_eqo, fin2_0, fin2_1, w64_w32, w32_w32, w32_id, w64_id, jx_cc, cmp_lt, cmp_le, cmp_eq, cmp_gt, cmp_ge, Int.cast_ofNat_Int, Int.natCast_zero, Int.natCast_one, Int.zero_add, Int.add_zero, not_true_eq_false, not_false_eq_true, true_and, and_true, ne_eq, reduceCtorEq, false_and, and_false, or_false, false_or, true_or, or_true, Int.reduceAdd, rvC_now, rvC_kept, rvC_courses, rvC_law, rvC_past, rvC_reader, rvC_taken, rvC_ways, rvC_choice, rvC_wbf, rvC_hbf, rvC_order, rvC_results, rvC_lack0, rvC_cost0, rvC_worth0, rvC_life0, rvC_result0, rvC_owed0, rvC_hand0, rvC_join0, rvC_lack1, rvC_cost1, rvC_worth1, rvC_life1, rvC_result1, rvC_owed1, rvC_hand1, rvC_join1, rvC_texts, rvC_without, rvC_rtext, rvC_rfrom, rvC_rtold, rvC_names, rvC_stack, rvC_pfirms, rvC_pwages, rvC_pheads, rvC_ppaid, rvC_tape, rvC_kinds, rvC_starts, rvC_numbers, rvC_spaid, rvC_sback, rvC_lacked, rvC_over, rvC_best, rvC_chosen, rvC_wcode, rvC_wbegin, rvC_wstop, rvC_into, rvC_acou, rvC_arow0, rvC_arow1, rvC_ahan0, rvC_ahan1, rvC_ajoi0, rvC_ajoi1, rvC_atxt, rvC_tcode, rvC_tbegin, rvC_tstop, lenC_courses, tagC_courses, lenC_wbf, tagC_wbf, lenC_hbf, tagC_hbf, lenC_order, tagC_order, lenC_results, tagC_results, lenC_lack0, tagC_lack0, lenC_cost0, tagC_cost0, lenC_worth0, tagC_worth0, lenC_life0, tagC_life0, lenC_result0, tagC_result0, lenC_owed0, tagC_owed0, lenC_hand0, tagC_hand0, lenC_join0, tagC_join0, lenC_lack1, tagC_lack1, lenC_cost1, tagC_cost1, lenC_worth1, tagC_worth1, lenC_life1, tagC_life1, lenC_result1, tagC_result1, lenC_owed1, tagC_owed1, lenC_hand1, tagC_hand1, lenC_join1, tagC_join1, lenC_texts, tagC_texts, lenC_rtext, tagC_rtext, lenC_rfrom, tagC_rfrom, lenC_rtold, tagC_rtold, lenC_names, tagC_names, lenC_stack, tagC_stack, lenC_pfirms, tagC_pfirms, lenC_pwages, tagC_pwages, lenC_pheads, tagC_pheads, lenC_ppaid, tagC_ppaid, lenC_tape, tagC_tape, lenC_kinds, tagC_kinds, lenC_starts, tagC_starts, lenC_numbers, tagC_numbers, lenC_spaid, tagC_spaid, lenC_sback, tagC_sback, lenC_lacked, tagC_lacked, lenC_over, tagC_over, lenC_best, tagC_best, lenC_chosen, tagC_chosen, kdC_row0, kdC_row1, kdC_cou, kdC_han0, kdC_han1, kdC_joi0, kdC_joi1, kdC_txt, kdC_code, kdC_begin, kdC_stop, wi] at hc); (try (exfalso; omega)))
            | exact True.intro
            | exact Eq.refl _
            | refine Or.inl ⟨rfl, rfl, ?_, ?_⟩
            | refine Or.inr ⟨rfl, rfl, ?_, ?_⟩
            | exact Or.inl rfl
            | exact Nat.le_of_ble_eq_true rfl
            | decide)
      all_goals (try simp (disch := omega) only [wi, w8_w8, Int.add_sub_cancel, tdiv_e, tmod_e, hu_ne, hu_ni, hu_eqo, fin2_0, fin2_1, w64_w32, w32_w32, w32_id, w64_id, jx_cc, cmp_lt, cmp_le, cmp_eq, cmp_gt, cmp_ge, Int.cast_ofNat_Int, Int.natCast_zero, Int.natCast_one, Int.zero_add, Int.add_zero, not_true_eq_false, not_false_eq_true, true_and, and_true, ne_eq, reduceCtorEq, false_and, and_false, or_false, false_or, true_or, or_true, Int.reduceAdd, rvC_now, rvC_kept, rvC_courses, rvC_law, rvC_past, rvC_reader, rvC_taken, rvC_ways, rvC_choice, rvC_wbf, rvC_hbf, rvC_order, rvC_results, rvC_lack0, rvC_cost0, rvC_worth0, rvC_life0, rvC_result0, rvC_owed0, rvC_hand0, rvC_join0, rvC_lack1, rvC_cost1, rvC_worth1, rvC_life1, rvC_result1, rvC_owed1, rvC_hand1, rvC_join1, rvC_texts, rvC_without, rvC_rtext, rvC_rfrom, rvC_rtold, rvC_names, rvC_stack, rvC_pfirms, rvC_pwages, rvC_pheads, rvC_ppaid, rvC_tape, rvC_kinds, rvC_starts, rvC_numbers, rvC_spaid, rvC_sback, rvC_lacked, rvC_over, rvC_best, rvC_chosen, rvC_wcode, rvC_wbegin, rvC_wstop, rvC_into, rvC_acou, rvC_arow0, rvC_arow1, rvC_ahan0, rvC_ahan1, rvC_ajoi0, rvC_ajoi1, rvC_atxt, rvC_tcode, rvC_tbegin, rvC_tstop, lenC_courses, tagC_courses, lenC_wbf, tagC_wbf, lenC_hbf, tagC_hbf, lenC_order, tagC_order, lenC_results, tagC_results, lenC_lack0, tagC_lack0, lenC_cost0, tagC_cost0, lenC_worth0, tagC_worth0, lenC_life0, tagC_life0, lenC_result0, tagC_result0, lenC_owed0, tagC_owed0, lenC_hand0, tagC_hand0, lenC_join0, tagC_join0, lenC_lack1, tagC_lack1, lenC_cost1, tagC_cost1, lenC_worth1, tagC_worth1, lenC_life1, tagC_life1, lenC_result1, tagC_result1, lenC_owed1, tagC_owed1, lenC_hand1, tagC_hand1, lenC_join1, tagC_join1, lenC_texts, tagC_texts, lenC_rtext, tagC_rtext, lenC_rfrom, tagC_rfrom, lenC_rtold, tagC_rtold, lenC_names, tagC_names, lenC_stack, tagC_stack, lenC_pfirms, tagC_pfirms, lenC_pwages, tagC_pwages, lenC_pheads, tagC_pheads, lenC_ppaid, tagC_ppaid, lenC_tape, tagC_tape, lenC_kinds, tagC_kinds, lenC_starts, tagC_starts, lenC_numbers, tagC_numbers, lenC_spaid, tagC_spaid, lenC_sback, tagC_sback, lenC_lacked, tagC_lacked, lenC_over, tagC_over, lenC_best, tagC_best, lenC_chosen, tagC_chosen, kdC_row0, kdC_row1, kdC_cou, kdC_han0, kdC_han1, kdC_joi0, kdC_joi1, kdC_txt, kdC_code, kdC_begin, kdC_stop])
      all_goals first | omega | exact hK | trace_state
    | succ q ih =>
      intro i hi i0
      have ih := ih (i + 1) (by omega) (by omega)
      have eh : hu (flH h r i v) r i v = flH h r (i + 1) v := by
        funext k j
        unfold hu flH
        by_cases e : k = r ∧ j = i
        · rw [if_pos e, if_pos ⟨e.1, by omega, by omega⟩]
        · rw [if_neg e]
          by_cases e2 : k = r ∧ 0 ≤ j ∧ j < i
          · rw [if_pos e2, if_pos ⟨e2.1, by omega, by omega⟩]
          · rw [if_neg e2, if_neg fun z => e2 ⟨z.1, z.2.1, by
              have : ¬ j = i := fun y => e ⟨z.1, y⟩
              omega⟩]
      rw [← eh] at ih
      have hin := hin i i0 (by omega)
      have wi : w32 i = i := w32_id (by omega) (by omega)
      have wn : w32 n = n := w32_id (by omega) (by omega)
      rw [← wi] at hin
      refine jx_goR (jx_tab_nd TJ7_fill_53178_ok) (jx_C_mono _ _) hG (fun _ _ _ _ q => q) 60 [(5, [0, 1, 2, 3])] ?_
      repeat' first
        | (with_reducible refine ob_q ?_; simp (disch := omega) only [rvC_now, rvC_kept, rvC_courses, rvC_law, rvC_past, rvC_reader, rvC_taken, rvC_ways, rvC_choice, rvC_wbf, rvC_hbf, rvC_order, rvC_results, rvC_lack0, rvC_cost0, rvC_worth0, rvC_life0, rvC_result0, rvC_owed0, rvC_hand0, rvC_join0, rvC_lack1, rvC_cost1, rvC_worth1, rvC_life1, rvC_result1, rvC_owed1, rvC_hand1, rvC_join1, rvC_texts, rvC_without, rvC_rtext, rvC_rfrom, rvC_rtold, rvC_names, rvC_stack, rvC_pfirms, rvC_pwages, rvC_pheads, rvC_ppaid, rvC_tape, rvC_kinds, rvC_starts, rvC_numbers, rvC_spaid, rvC_sback, rvC_lacked, rvC_over, rvC_best, rvC_chosen, rvC_wcode, rvC_wbegin, rvC_wstop, rvC_into, rvC_acou, rvC_arow0, rvC_arow1, rvC_ahan0, rvC_ahan1, rvC_ajoi0, rvC_ajoi1, rvC_atxt, rvC_tcode, rvC_tbegin, rvC_tstop, inC_row0, inC_row1, obC_cou, obC_han0, obC_han1, obC_joi0, obC_joi1, obC_txt, inC_code, inC_begin, inC_stop, obC_1, obC_2, obC_3, obC_4, obC_5, obC_6, obC_7, obC_8, obC_9, obC_910, inC_wbf, inC_hbf, inC_order, inC_results, inC_lack0, inC_cost0, inC_worth0, inC_life0, inC_result0, inC_lack1, inC_cost1, inC_worth1, inC_life1, inC_result1, inC_rtext, inC_rfrom, inC_rtold, inC_names, inC_stack, inC_pfirms, inC_pwages, inC_pheads, inC_ppaid, inC_tape2, inC_tape3, inC_tape, inC_kinds, inC_starts, inC_numbers, inC_spaid, inC_sback, inC_lacked, inC_over, inC_best, inC_chosen, kdC_row0, kdC_row1, kdC_cou, kdC_han0, kdC_han1, kdC_joi0, kdC_joi1, kdC_txt, kdC_code, kdC_begin, kdC_stop, lenC_courses, tagC_courses, lenC_wbf, tagC_wbf, lenC_hbf, tagC_hbf, lenC_order, tagC_order, lenC_results, tagC_results, lenC_lack0, tagC_lack0, lenC_cost0, tagC_cost0, lenC_worth0, tagC_worth0, lenC_life0, tagC_life0, lenC_result0, tagC_result0, lenC_owed0, tagC_owed0, lenC_hand0, tagC_hand0, lenC_join0, tagC_join0, lenC_lack1, tagC_lack1, lenC_cost1, tagC_cost1, lenC_worth1, tagC_worth1, lenC_life1, tagC_life1, lenC_result1, tagC_result1, lenC_owed1, tagC_owed1, lenC_hand1, tagC_hand1, lenC_join1, tagC_join1, lenC_texts, tagC_texts, lenC_rtext, tagC_rtext, lenC_rfrom, tagC_rfrom, lenC_rtold, tagC_rtold, lenC_names, tagC_names, lenC_stack, tagC_stack, lenC_pfirms, tagC_pfirms, lenC_pwages, tagC_pwages, lenC_pheads, tagC_pheads, lenC_ppaid, tagC_ppaid, lenC_tape, tagC_tape, lenC_kinds, tagC_kinds, lenC_starts, tagC_starts, lenC_numbers, tagC_numbers, lenC_spaid, tagC_spaid, lenC_sback, tagC_sback, lenC_lacked, tagC_lacked, lenC_over, tagC_over, lenC_best, tagC_best, lenC_chosen, tagC_chosen, w32_w32, w32_id, hu_ne, hu_ni, hu_eqo, Int.cast_ofNat_Int, Int.zero_add, Int.add_zero])
        | (with_reducible refine in_q ?_; simp (disch := omega) only [rvC_now, rvC_kept, rvC_courses, rvC_law, rvC_past, rvC_reader, rvC_taken, rvC_ways, rvC_choice, rvC_wbf, rvC_hbf, rvC_order, rvC_results, rvC_lack0, rvC_cost0, rvC_worth0, rvC_life0, rvC_result0, rvC_owed0, rvC_hand0, rvC_join0, rvC_lack1, rvC_cost1, rvC_worth1, rvC_life1, rvC_result1, rvC_owed1, rvC_hand1, rvC_join1, rvC_texts, rvC_without, rvC_rtext, rvC_rfrom, rvC_rtold, rvC_names, rvC_stack, rvC_pfirms, rvC_pwages, rvC_pheads, rvC_ppaid, rvC_tape, rvC_kinds, rvC_starts, rvC_numbers, rvC_spaid, rvC_sback, rvC_lacked, rvC_over, rvC_best, rvC_chosen, rvC_wcode, rvC_wbegin, rvC_wstop, rvC_into, rvC_acou, rvC_arow0, rvC_arow1, rvC_ahan0, rvC_ahan1, rvC_ajoi0, rvC_ajoi1, rvC_atxt, rvC_tcode, rvC_tbegin, rvC_tstop, inC_row0, inC_row1, obC_cou, obC_han0, obC_han1, obC_joi0, obC_joi1, obC_txt, inC_code, inC_begin, inC_stop, obC_1, obC_2, obC_3, obC_4, obC_5, obC_6, obC_7, obC_8, obC_9, obC_910, inC_wbf, inC_hbf, inC_order, inC_results, inC_lack0, inC_cost0, inC_worth0, inC_life0, inC_result0, inC_lack1, inC_cost1, inC_worth1, inC_life1, inC_result1, inC_rtext, inC_rfrom, inC_rtold, inC_names, inC_stack, inC_pfirms, inC_pwages, inC_pheads, inC_ppaid, inC_tape2, inC_tape3, inC_tape, inC_kinds, inC_starts, inC_numbers, inC_spaid, inC_sback, inC_lacked, inC_over, inC_best, inC_chosen, kdC_row0, kdC_row1, kdC_cou, kdC_han0, kdC_han1, kdC_joi0, kdC_joi1, kdC_txt, kdC_code, kdC_begin, kdC_stop, lenC_courses, tagC_courses, lenC_wbf, tagC_wbf, lenC_hbf, tagC_hbf, lenC_order, tagC_order, lenC_results, tagC_results, lenC_lack0, tagC_lack0, lenC_cost0, tagC_cost0, lenC_worth0, tagC_worth0, lenC_life0, tagC_life0, lenC_result0, tagC_result0, lenC_owed0, tagC_owed0, lenC_hand0, tagC_hand0, lenC_join0, tagC_join0, lenC_lack1, tagC_lack1, lenC_cost1, tagC_cost1, lenC_worth1, tagC_worth1, lenC_life1, tagC_life1, lenC_result1, tagC_result1, lenC_owed1, tagC_owed1, lenC_hand1, tagC_hand1, lenC_join1, tagC_join1, lenC_texts, tagC_texts, lenC_rtext, tagC_rtext, lenC_rfrom, tagC_rfrom, lenC_rtold, tagC_rtold, lenC_names, tagC_names, lenC_stack, tagC_stack, lenC_pfirms, tagC_pfirms, lenC_pwages, tagC_pwages, lenC_pheads, tagC_pheads, lenC_ppaid, tagC_ppaid, lenC_tape, tagC_tape, lenC_kinds, tagC_kinds, lenC_starts, tagC_starts, lenC_numbers, tagC_numbers, lenC_spaid, tagC_spaid, lenC_sback, tagC_sback, lenC_lacked, tagC_lacked, lenC_over, tagC_over, lenC_best, tagC_best, lenC_chosen, tagC_chosen, w32_w32, w32_id, hu_ne, hu_ni, hu_eqo, Int.cast_ofNat_Int, Int.zero_add, Int.add_zero]; omega)
        | apply And.intro
        | with_reducible assumption
        | (first
            | (intro hc; (try simp (disch := omega) only [w8_w8, Int.add_sub_cancel, tdiv_e, tmod_e, hu_ne, hu_ni, hu_eqo, fin2_0, fin2_1, w64_w32, w32_w32, w32_id, w64_id, jx_cc, cmp_lt, cmp_le, cmp_eq, cmp_gt, cmp_ge, Int.cast_ofNat_Int, Int.natCast_zero, Int.natCast_one, Int.zero_add, Int.add_zero, not_true_eq_false, not_false_eq_true, true_and, and_true, ne_eq, reduceCtorEq, false_and, and_false, or_false, false_or, true_or, or_true, Int.reduceAdd, rvC_now, rvC_kept, rvC_courses, rvC_law, rvC_past, rvC_reader, rvC_taken, rvC_ways, rvC_choice, rvC_wbf, rvC_hbf, rvC_order, rvC_results, rvC_lack0, rvC_cost0, rvC_worth0, rvC_life0, rvC_result0, rvC_owed0, rvC_hand0, rvC_join0, rvC_lack1, rvC_cost1, rvC_worth1, rvC_life1, rvC_result1, rvC_owed1, rvC_hand1, rvC_join1, rvC_texts, rvC_without, rvC_rtext, rvC_rfrom, rvC_rtold, rvC_names, rvC_stack, rvC_pfirms, rvC_pwages, rvC_pheads, rvC_ppaid, rvC_tape, rvC_kinds, rvC_starts, rvC_numbers, rvC_spaid, rvC_sback, rvC_lacked, rvC_over, rvC_best, rvC_chosen, rvC_wcode, rvC_wbegin, rvC_wstop, rvC_into, rvC_acou, rvC_arow0, rvC_arow1, rvC_ahan0, rvC_ahan1, rvC_ajoi0, rvC_ajoi1, rvC_atxt, rvC_tcode, rvC_tbegin, rvC_tstop, lenC_courses, tagC_courses, lenC_wbf, tagC_wbf, lenC_hbf, tagC_hbf, lenC_order, tagC_order, lenC_results, tagC_results, lenC_lack0, tagC_lack0, lenC_cost0, tagC_cost0, lenC_worth0, tagC_worth0, lenC_life0, tagC_life0, lenC_result0, tagC_result0, lenC_owed0, tagC_owed0, lenC_hand0, tagC_hand0, lenC_join0, tagC_join0, lenC_lack1, tagC_lack1, lenC_cost1, tagC_cost1, lenC_worth1, tagC_worth1, lenC_life1, tagC_life1, lenC_result1, tagC_result1, lenC_owed1, tagC_owed1, lenC_hand1, tagC_hand1, lenC_join1, tagC_join1, lenC_texts, tagC_texts, lenC_rtext, tagC_rtext, lenC_rfrom, tagC_rfrom, lenC_rtold, tagC_rtold, lenC_names, tagC_names, lenC_stack, tagC_stack, lenC_pfirms, tagC_pfirms, lenC_pwages, tagC_pwages, lenC_pheads, tagC_pheads, lenC_ppaid, tagC_ppaid, lenC_tape, tagC_tape, lenC_kinds, tagC_kinds, lenC_starts, tagC_starts, lenC_numbers, tagC_numbers, lenC_spaid, tagC_spaid, lenC_sback, tagC_sback, lenC_lacked, tagC_lacked, lenC_over, tagC_over, lenC_best, tagC_best, lenC_chosen, tagC_chosen, kdC_row0, kdC_row1, kdC_cou, kdC_han0, kdC_han1, kdC_joi0, kdC_joi1, kdC_txt, kdC_code, kdC_begin, kdC_stop, wi, wn] at hc); (try (exfalso; omega)))
            | exact True.intro
            | exact Eq.refl _
            | refine Or.inl ⟨rfl, rfl, ?_, ?_⟩
            | refine Or.inr ⟨rfl, rfl, ?_, ?_⟩
            | exact Or.inl rfl
            | exact Nat.le_of_ble_eq_true rfl
            | decide)
      all_goals (try simp (disch := omega) only [wi, wn, w8_w8, Int.add_sub_cancel, tdiv_e, tmod_e, hu_ne, hu_ni, hu_eqo, fin2_0, fin2_1, w64_w32, w32_w32, w32_id, w64_id, jx_cc, cmp_lt, cmp_le, cmp_eq, cmp_gt, cmp_ge, Int.cast_ofNat_Int, Int.natCast_zero, Int.natCast_one, Int.zero_add, Int.add_zero, not_true_eq_false, not_false_eq_true, true_and, and_true, ne_eq, reduceCtorEq, false_and, and_false, or_false, false_or, true_or, or_true, Int.reduceAdd, rvC_now, rvC_kept, rvC_courses, rvC_law, rvC_past, rvC_reader, rvC_taken, rvC_ways, rvC_choice, rvC_wbf, rvC_hbf, rvC_order, rvC_results, rvC_lack0, rvC_cost0, rvC_worth0, rvC_life0, rvC_result0, rvC_owed0, rvC_hand0, rvC_join0, rvC_lack1, rvC_cost1, rvC_worth1, rvC_life1, rvC_result1, rvC_owed1, rvC_hand1, rvC_join1, rvC_texts, rvC_without, rvC_rtext, rvC_rfrom, rvC_rtold, rvC_names, rvC_stack, rvC_pfirms, rvC_pwages, rvC_pheads, rvC_ppaid, rvC_tape, rvC_kinds, rvC_starts, rvC_numbers, rvC_spaid, rvC_sback, rvC_lacked, rvC_over, rvC_best, rvC_chosen, rvC_wcode, rvC_wbegin, rvC_wstop, rvC_into, rvC_acou, rvC_arow0, rvC_arow1, rvC_ahan0, rvC_ahan1, rvC_ajoi0, rvC_ajoi1, rvC_atxt, rvC_tcode, rvC_tbegin, rvC_tstop, lenC_courses, tagC_courses, lenC_wbf, tagC_wbf, lenC_hbf, tagC_hbf, lenC_order, tagC_order, lenC_results, tagC_results, lenC_lack0, tagC_lack0, lenC_cost0, tagC_cost0, lenC_worth0, tagC_worth0, lenC_life0, tagC_life0, lenC_result0, tagC_result0, lenC_owed0, tagC_owed0, lenC_hand0, tagC_hand0, lenC_join0, tagC_join0, lenC_lack1, tagC_lack1, lenC_cost1, tagC_cost1, lenC_worth1, tagC_worth1, lenC_life1, tagC_life1, lenC_result1, tagC_result1, lenC_owed1, tagC_owed1, lenC_hand1, tagC_hand1, lenC_join1, tagC_join1, lenC_texts, tagC_texts, lenC_rtext, tagC_rtext, lenC_rfrom, tagC_rfrom, lenC_rtold, tagC_rtold, lenC_names, tagC_names, lenC_stack, tagC_stack, lenC_pfirms, tagC_pfirms, lenC_pwages, tagC_pwages, lenC_pheads, tagC_pheads, lenC_ppaid, tagC_ppaid, lenC_tape, tagC_tape, lenC_kinds, tagC_kinds, lenC_starts, tagC_starts, lenC_numbers, tagC_numbers, lenC_spaid, tagC_spaid, lenC_sback, tagC_sback, lenC_lacked, tagC_lacked, lenC_over, tagC_over, lenC_best, tagC_best, lenC_chosen, tagC_chosen, kdC_row0, kdC_row1, kdC_cou, kdC_han0, kdC_han1, kdC_joi0, kdC_joi1, kdC_txt, kdC_code, kdC_begin, kdC_stop])
      all_goals first | omega | exact hin | (rw [wi] at hin; exact hin) | exact hin.1 | exact hin.2.1 | (rw [e3]; omega) | exact ih | trace_state
  have b := lp n.toNat 0 (by omega) (Int.le_refl _)
  have e0 : flH h r 0 v = h := by
    funext k j
    unfold flH
    rw [if_neg (by omega)]
  rw [e0] at b
  clear lp
  refine jx_goR (jx_tab_nd TJ7_fill_53178_ok) (jx_C_mono _ _) hG (fun _ _ _ _ q => q) 60 [(5, [0, 1, 2, 3])] ?_
  repeat' first
    | (with_reducible refine ob_q ?_; simp (disch := omega) only [rvC_now, rvC_kept, rvC_courses, rvC_law, rvC_past, rvC_reader, rvC_taken, rvC_ways, rvC_choice, rvC_wbf, rvC_hbf, rvC_order, rvC_results, rvC_lack0, rvC_cost0, rvC_worth0, rvC_life0, rvC_result0, rvC_owed0, rvC_hand0, rvC_join0, rvC_lack1, rvC_cost1, rvC_worth1, rvC_life1, rvC_result1, rvC_owed1, rvC_hand1, rvC_join1, rvC_texts, rvC_without, rvC_rtext, rvC_rfrom, rvC_rtold, rvC_names, rvC_stack, rvC_pfirms, rvC_pwages, rvC_pheads, rvC_ppaid, rvC_tape, rvC_kinds, rvC_starts, rvC_numbers, rvC_spaid, rvC_sback, rvC_lacked, rvC_over, rvC_best, rvC_chosen, rvC_wcode, rvC_wbegin, rvC_wstop, rvC_into, rvC_acou, rvC_arow0, rvC_arow1, rvC_ahan0, rvC_ahan1, rvC_ajoi0, rvC_ajoi1, rvC_atxt, rvC_tcode, rvC_tbegin, rvC_tstop, inC_row0, inC_row1, obC_cou, obC_han0, obC_han1, obC_joi0, obC_joi1, obC_txt, inC_code, inC_begin, inC_stop, obC_1, obC_2, obC_3, obC_4, obC_5, obC_6, obC_7, obC_8, obC_9, obC_910, inC_wbf, inC_hbf, inC_order, inC_results, inC_lack0, inC_cost0, inC_worth0, inC_life0, inC_result0, inC_lack1, inC_cost1, inC_worth1, inC_life1, inC_result1, inC_rtext, inC_rfrom, inC_rtold, inC_names, inC_stack, inC_pfirms, inC_pwages, inC_pheads, inC_ppaid, inC_tape2, inC_tape3, inC_tape, inC_kinds, inC_starts, inC_numbers, inC_spaid, inC_sback, inC_lacked, inC_over, inC_best, inC_chosen, kdC_row0, kdC_row1, kdC_cou, kdC_han0, kdC_han1, kdC_joi0, kdC_joi1, kdC_txt, kdC_code, kdC_begin, kdC_stop, lenC_courses, tagC_courses, lenC_wbf, tagC_wbf, lenC_hbf, tagC_hbf, lenC_order, tagC_order, lenC_results, tagC_results, lenC_lack0, tagC_lack0, lenC_cost0, tagC_cost0, lenC_worth0, tagC_worth0, lenC_life0, tagC_life0, lenC_result0, tagC_result0, lenC_owed0, tagC_owed0, lenC_hand0, tagC_hand0, lenC_join0, tagC_join0, lenC_lack1, tagC_lack1, lenC_cost1, tagC_cost1, lenC_worth1, tagC_worth1, lenC_life1, tagC_life1, lenC_result1, tagC_result1, lenC_owed1, tagC_owed1, lenC_hand1, tagC_hand1, lenC_join1, tagC_join1, lenC_texts, tagC_texts, lenC_rtext, tagC_rtext, lenC_rfrom, tagC_rfrom, lenC_rtold, tagC_rtold, lenC_names, tagC_names, lenC_stack, tagC_stack, lenC_pfirms, tagC_pfirms, lenC_pwages, tagC_pwages, lenC_pheads, tagC_pheads, lenC_ppaid, tagC_ppaid, lenC_tape, tagC_tape, lenC_kinds, tagC_kinds, lenC_starts, tagC_starts, lenC_numbers, tagC_numbers, lenC_spaid, tagC_spaid, lenC_sback, tagC_sback, lenC_lacked, tagC_lacked, lenC_over, tagC_over, lenC_best, tagC_best, lenC_chosen, tagC_chosen, w32_w32, w32_id, hu_ne, hu_ni, hu_eqo, Int.cast_ofNat_Int, Int.zero_add, Int.add_zero])
    | (with_reducible refine in_q ?_; simp (disch := omega) only [rvC_now, rvC_kept, rvC_courses, rvC_law, rvC_past, rvC_reader, rvC_taken, rvC_ways, rvC_choice, rvC_wbf, rvC_hbf, rvC_order, rvC_results, rvC_lack0, rvC_cost0, rvC_worth0, rvC_life0, rvC_result0, rvC_owed0, rvC_hand0, rvC_join0, rvC_lack1, rvC_cost1, rvC_worth1, rvC_life1, rvC_result1, rvC_owed1, rvC_hand1, rvC_join1, rvC_texts, rvC_without, rvC_rtext, rvC_rfrom, rvC_rtold, rvC_names, rvC_stack, rvC_pfirms, rvC_pwages, rvC_pheads, rvC_ppaid, rvC_tape, rvC_kinds, rvC_starts, rvC_numbers, rvC_spaid, rvC_sback, rvC_lacked, rvC_over, rvC_best, rvC_chosen, rvC_wcode, rvC_wbegin, rvC_wstop, rvC_into, rvC_acou, rvC_arow0, rvC_arow1, rvC_ahan0, rvC_ahan1, rvC_ajoi0, rvC_ajoi1, rvC_atxt, rvC_tcode, rvC_tbegin, rvC_tstop, inC_row0, inC_row1, obC_cou, obC_han0, obC_han1, obC_joi0, obC_joi1, obC_txt, inC_code, inC_begin, inC_stop, obC_1, obC_2, obC_3, obC_4, obC_5, obC_6, obC_7, obC_8, obC_9, obC_910, inC_wbf, inC_hbf, inC_order, inC_results, inC_lack0, inC_cost0, inC_worth0, inC_life0, inC_result0, inC_lack1, inC_cost1, inC_worth1, inC_life1, inC_result1, inC_rtext, inC_rfrom, inC_rtold, inC_names, inC_stack, inC_pfirms, inC_pwages, inC_pheads, inC_ppaid, inC_tape2, inC_tape3, inC_tape, inC_kinds, inC_starts, inC_numbers, inC_spaid, inC_sback, inC_lacked, inC_over, inC_best, inC_chosen, kdC_row0, kdC_row1, kdC_cou, kdC_han0, kdC_han1, kdC_joi0, kdC_joi1, kdC_txt, kdC_code, kdC_begin, kdC_stop, lenC_courses, tagC_courses, lenC_wbf, tagC_wbf, lenC_hbf, tagC_hbf, lenC_order, tagC_order, lenC_results, tagC_results, lenC_lack0, tagC_lack0, lenC_cost0, tagC_cost0, lenC_worth0, tagC_worth0, lenC_life0, tagC_life0, lenC_result0, tagC_result0, lenC_owed0, tagC_owed0, lenC_hand0, tagC_hand0, lenC_join0, tagC_join0, lenC_lack1, tagC_lack1, lenC_cost1, tagC_cost1, lenC_worth1, tagC_worth1, lenC_life1, tagC_life1, lenC_result1, tagC_result1, lenC_owed1, tagC_owed1, lenC_hand1, tagC_hand1, lenC_join1, tagC_join1, lenC_texts, tagC_texts, lenC_rtext, tagC_rtext, lenC_rfrom, tagC_rfrom, lenC_rtold, tagC_rtold, lenC_names, tagC_names, lenC_stack, tagC_stack, lenC_pfirms, tagC_pfirms, lenC_pwages, tagC_pwages, lenC_pheads, tagC_pheads, lenC_ppaid, tagC_ppaid, lenC_tape, tagC_tape, lenC_kinds, tagC_kinds, lenC_starts, tagC_starts, lenC_numbers, tagC_numbers, lenC_spaid, tagC_spaid, lenC_sback, tagC_sback, lenC_lacked, tagC_lacked, lenC_over, tagC_over, lenC_best, tagC_best, lenC_chosen, tagC_chosen, w32_w32, w32_id, hu_ne, hu_ni, hu_eqo, Int.cast_ofNat_Int, Int.zero_add, Int.add_zero]; omega)
    | apply And.intro
    | with_reducible assumption
    | (first
        | (intro hc; (try simp (disch := omega) only [w8_w8, Int.add_sub_cancel, tdiv_e, tmod_e, hu_ne, hu_ni, hu_eqo, fin2_0, fin2_1, w64_w32, w32_w32, w32_id, w64_id, jx_cc, cmp_lt, cmp_le, cmp_eq, cmp_gt, cmp_ge, Int.cast_ofNat_Int, Int.natCast_zero, Int.natCast_one, Int.zero_add, Int.add_zero, not_true_eq_false, not_false_eq_true, true_and, and_true, ne_eq, reduceCtorEq, false_and, and_false, or_false, false_or, true_or, or_true, Int.reduceAdd, rvC_now, rvC_kept, rvC_courses, rvC_law, rvC_past, rvC_reader, rvC_taken, rvC_ways, rvC_choice, rvC_wbf, rvC_hbf, rvC_order, rvC_results, rvC_lack0, rvC_cost0, rvC_worth0, rvC_life0, rvC_result0, rvC_owed0, rvC_hand0, rvC_join0, rvC_lack1, rvC_cost1, rvC_worth1, rvC_life1, rvC_result1, rvC_owed1, rvC_hand1, rvC_join1, rvC_texts, rvC_without, rvC_rtext, rvC_rfrom, rvC_rtold, rvC_names, rvC_stack, rvC_pfirms, rvC_pwages, rvC_pheads, rvC_ppaid, rvC_tape, rvC_kinds, rvC_starts, rvC_numbers, rvC_spaid, rvC_sback, rvC_lacked, rvC_over, rvC_best, rvC_chosen, rvC_wcode, rvC_wbegin, rvC_wstop, rvC_into, rvC_acou, rvC_arow0, rvC_arow1, rvC_ahan0, rvC_ahan1, rvC_ajoi0, rvC_ajoi1, rvC_atxt, rvC_tcode, rvC_tbegin, rvC_tstop, lenC_courses, tagC_courses, lenC_wbf, tagC_wbf, lenC_hbf, tagC_hbf, lenC_order, tagC_order, lenC_results, tagC_results, lenC_lack0, tagC_lack0, lenC_cost0, tagC_cost0, lenC_worth0, tagC_worth0, lenC_life0, tagC_life0, lenC_result0, tagC_result0, lenC_owed0, tagC_owed0, lenC_hand0, tagC_hand0, lenC_join0, tagC_join0, lenC_lack1, tagC_lack1, lenC_cost1, tagC_cost1, lenC_worth1, tagC_worth1, lenC_life1, tagC_life1, lenC_result1, tagC_result1, lenC_owed1, tagC_owed1, lenC_hand1, tagC_hand1, lenC_join1, tagC_join1, lenC_texts, tagC_texts, lenC_rtext, tagC_rtext, lenC_rfrom, tagC_rfrom, lenC_rtold, tagC_rtold, lenC_names, tagC_names, lenC_stack, tagC_stack, lenC_pfirms, tagC_pfirms, lenC_pwages, tagC_pwages, lenC_pheads, tagC_pheads, lenC_ppaid, tagC_ppaid, lenC_tape, tagC_tape, lenC_kinds, tagC_kinds, lenC_starts, tagC_starts, lenC_numbers, tagC_numbers, lenC_spaid, tagC_spaid, lenC_sback, tagC_sback, lenC_lacked, tagC_lacked, lenC_over, tagC_over, lenC_best, tagC_best, lenC_chosen, tagC_chosen, kdC_row0, kdC_row1, kdC_cou, kdC_han0, kdC_han1, kdC_joi0, kdC_joi1, kdC_txt, kdC_code, kdC_begin, kdC_stop] at hc); (try (exfalso; omega)))
        | exact True.intro
        | exact Eq.refl _
        | refine Or.inl ⟨rfl, rfl, ?_, ?_⟩
        | refine Or.inr ⟨rfl, rfl, ?_, ?_⟩
        | exact Or.inl rfl
        | exact Nat.le_of_ble_eq_true rfl
        | decide)
  all_goals (try simp only [e3])
  all_goals first | omega | exact e1 | exact b | assumption | trace_state
