/-! the law's loop -/
def lk_pcs : List Nat := [208, 221, 274, 327, 360, 471, 504, 567, 590, 603, 626, 659, 702, 735, 768, 791, 824, 847, 870, 903, 946, 969, 1002, 1025, 1068, 1101, 1134, 1177, 1210, 1254, 1287, 1330, 1373, 1407, 1430, 1489, 1512, 1525, 1538, 1561]
def lk_pc (k : Nat) : Nat := lk_pcs.getD k 0
theorem lk_tab : decode code 33 = .ok (.tableswitch 1542 0 39 #[175, 188, 241, 294, 327, 438, 471, 534, 557, 570, 593, 626, 669, 702, 735, 758, 791, 814, 837, 870, 913, 936, 969, 992, 1035, 1068, 1101, 1144, 1177, 1221, 1254, 1297, 1340, 1374, 1397, 1456, 1479, 1492, 1505, 1528], 175) := by decide +kernel
theorem lk_offs : ∀ k : Nat, k < 40 → (#[175, 188, 241, 294, 327, 438, 471, 534, 557, 570, 593, 626, 669, 702, 735, 758, 791, 814, 837, 870, 913, 936, 969, 992, 1035, 1068, 1101, 1144, 1177, 1221, 1254, 1297, 1340, 1374, 1397, 1456, 1479, 1492, 1505, 1528] : Array Int)[k]? = some (((lk_pc k : Nat) : Int) - 33) := by decide +kernel
theorem and63 (x : Int32) : 0 ≤ (x &&& 63).toInt ∧ (x &&& 63).toInt < 64 := by
  have e : (x &&& 63).toBitVec = x.toBitVec &&& 63#32 := by
    rw [Int32.toBitVec_and]
    rfl
  have n : (x &&& 63).toBitVec.toNat ≤ 63 := by
    rw [e, BitVec.toNat_and]
    exact Nat.le_trans Nat.and_le_right (by decide)
  have t : (x &&& 63).toInt = ((x &&& 63).toBitVec.toNat : Int) := by
    show BitVec.toInt _ = _
    rw [BitVec.toInt_eq_toNat_cond, if_pos (by omega)]
  omega
theorem lk_at {p : Program} {l : Launch} {e : Env} {s : State} {m : MethodId} {below : List Frame} {meth : Method} {c : Code} {Q : State → Prop} {b L : Nat} {xs : Nat → Int32} {D : va_G} {tA : Nat → ClassId} {αC αM : Int → Nat} {i : Int} {h g : jx_H} (X : lq_Ctx p s m meth c b L xs D tA αC αM) (hL : L ≤ 5120) (hi : 0 ≤ i) (hk : i + 9 < L) {B : Int} (R : RX g B) (hB : B ≤ 1000000000000) (S : Sim g h) (kk : ∀ h' g', Sim g' h' → RX g' (B + 1200000000) → lq_G p l e s m below meth c Q b D tA αC αM 1575 [] i h' g') : ∀ k : Nat, k < 40 → lq_G p l e s m below meth c Q b D tA αC αM (lk_pc k) [] i h g
  | 0, _ => lk_firm X hL hi hk R hB S kk
  | 1, _ => lk_hand X hL hi hk R hB S kk
  | 2, _ => lk_trade X hL hi hk R hB S kk
  | 3, _ => lk_paper X hL hi hk R hB S kk
  | 4, _ => lk_course X hL hi hk R hB S kk
  | 5, _ => lk_wage X hL hi hk R hB S kk
  | 6, _ => lk_feed X hL hi hk R hB S kk
  | 7, _ => lk_end X hL hi hk R hB S kk
  | 8, _ => lk_text X hL hi hk R hB S kk
  | 9, _ => lk_fault X hL hi hk R hB S kk
  | 10, _ => lk_ruling X hL hi hk R hB S kk
  | 11, _ => lk_ruled X hL hi hk R hB S kk
  | 12, _ => lk_go X hL hi hk R hB S kk
  | 13, _ => lk_join X hL hi hk R hB S kk
  | 14, _ => lk_giveUp X hL hi hk R hB S kk
  | 15, _ => lk_marked X hL hi hk R hB S kk
  | 16, _ => lk_claim X hL hi hk R hB S kk
  | 17, _ => lk_appeal X hL hi hk R hB S kk
  | 18, _ => lk_joined X hL hi hk R hB S kk
  | 19, _ => lk_has X hL hi hk R hB S kk
  | 20, _ => lk_bound X hL hi hk R hB S kk
  | 21, _ => lk_owed X hL hi hk R hB S kk
  | 22, _ => lk_months X hL hi hk R hB S kk
  | 23, _ => lk_firmOf X hL hi hk R hB S kk
  | 24, _ => lk_handOf X hL hi hk R hB S kk
  | 25, _ => lk_trainer X hL hi hk R hB S kk
  | 26, _ => lk_way X hL hi hk R hB S kk
  | 27, _ => lk_places X hL hi hk R hB S kk
  | 28, _ => lk_proves X hL hi hk R hB S kk
  | 29, _ => lk_result X hL hi hk R hB S kk
  | 30, _ => lk_trial X hL hi hk R hB S kk
  | 31, _ => lk_drawn X hL hi hk R hB S kk
  | 32, _ => lk_tried X hL hi hk R hB S kk
  | 33, _ => lk_sheet X hL hi hk R hB S kk
  | 34, _ => lk_alter X hL hi hk R hB S kk
  | 35, _ => lk_check X hL hi hk R hB S kk
  | 36, _ => lk_image X hL hi hk R hB S kk
  | 37, _ => lk_back X hL hi hk R hB S kk
  | 38, _ => lk_about X hL hi hk R hB S kk
  | 39, _ => lk_fund X hL hi hk R hB S kk
  | k + 40, h => absurd h (by omega)
theorem lk_iter {p : Program} {l : Launch} {e : Env} {s : State} {m : MethodId} {below : List Frame} {meth : Method} {c : Code} {Q : State → Prop} {b L : Nat} {xs : Nat → Int32} {D : va_G} {tA : Nat → ClassId} {αC αM : Int → Nat} {i : Int} {h g : jx_H} (X : lq_Ctx p s m meth c b L xs D tA αC αM) (hL : L ≤ 5120) (hi : 0 ≤ i) (hk : i + 9 < L) {B : Int} (R : RX g B) (hB : B ≤ 1000000000000) (S : Sim g h) (kk : ∀ h' g', Sim g' h' → RX g' (B + 1200000000) → lq_G p l e s m below meth c Q b D tA αC αM 1575 [] i h' g') : lq_G p l e s m below meth c Q b D tA αC αM 27 [] i h g := by
  have at0 := lk_at X hL hi hk R hB S kk
  have out := kk h g S (RX_B R (by omega))
  obtain ⟨⟨hx, hb, hr, hml, hown, hts, hX, hbl, hlk⟩, -⟩ := id X
  have sw : lq_G p l e s m below meth c Q b D tA αC αM 30 [.int (Int32.ofInt (lq_v xs i 0))] i h g := by
    refine ⟨(), fun H ls hP hM hS hl => ?_⟩
    refine lv_bipush (n := 63) (v := 63) hx hb (by decide +kernel) (by decide) ?_
    refine lv_iand hx hb (by decide +kernel) ?_
    obtain ⟨a0, a1⟩ := and63 (Int32.ofInt (lq_v xs i 0))
    generalize (Int32.ofInt (lq_v xs i 0) &&& 63) = y at a0 a1 ⊢
    by_cases hq : y.toInt < 40
    · have n40 : y.toInt.toNat < 40 := by omega
      refine lv_tableIn (off := ((lk_pc y.toInt.toNat : Nat) : Int) - 33) (tgt := lk_pc y.toInt.toNat) hx hb lk_tab (by omega) (by omega) ?_ (by omega) ((at0 _ n40).a H ls hP hM hS hl)
      rw [show (y.toInt - 0).toNat = y.toInt.toNat by rw [Int.sub_zero]]
      exact lk_offs _ n40
    · exact lv_tableOut (tgt := 1575) hx hb lk_tab (Or.inr (by omega)) (by decide) (out.a H ls hP hM hS hl)
  refine ⟨(), fun H ls hP hM hS hl => ?_⟩
  refine lv_aload_n hx hb (by decide +kernel : decode code 27 = .ok (.aload_n 0, 1)) rfl (lv_at hl 0 rfl) ?_
  refine lv_iload_n hx hb (by decide +kernel : decode code 28 = .ok (.iload_n 3, 1)) rfl (lv_at hl 3 rfl) ?_
  have z := (lq_rd X hL (k := 0) (t := 0) (pc := 29) hi (by omega) (by decide +kernel) sw).a H ls hP hM hS hl
  rw [show i + ((0 : Nat) : Int) = i by omega] at z
  exact z
/-- one call after the other -/
theorem lk_loop {p : Program} {l : Launch} {e : Env} {s : State} {m : MethodId} {below : List Frame} {meth : Method} {c : Code} {Q : State → Prop} {b L : Nat} {xs : Nat → Int32} {D : va_G} {tA : Nat → ClassId} {αC αM : Int → Nat} (X : lq_Ctx p s m meth c b L xs D tA αC αM) (hL : L ≤ 5120) (fin : ∀ i h g, lq_G p l e s m below meth c Q b D tA αC αM 1581 [] i h g) : ∀ (q : Nat) (i : Int) (h g : jx_H) (B : Int), (L : Int) ≤ i + q → 0 ≤ i → i ≤ 5130 → Sim g h → RX g B → B ≤ 120000000 * i → lq_G p l e s m below meth c Q b D tA αC αM 18 [] i h g := by
  obtain ⟨⟨hx, hb, hr, hml, hown, hts, hX, hbl, hlk⟩, -⟩ := id X
  intro q
  induction q with
  | zero =>
    intro i h g B q1 i0 i1 S R hB
    refine ⟨(), fun H ls hP hM hS hl => ?_⟩
    refine lv_iload_n hx hb (by decide +kernel : decode code 18 = .ok (.iload_n 3, 1)) rfl (lv_at hl 3 rfl) ?_
    refine lv_aload_n hx hb (by decide +kernel : decode code 19 = .ok (.aload_n 0, 1)) rfl (lv_at hl 0 rfl) ?_
    refine va_slen (A := fun q => s.heap.size ≤ q) hx hb hX hbl (Nat.not_le.mpr hbl) hS (by decide +kernel) ?_
    refine lv_bipush (n := 10) (v := Int32.ofInt 10) hx hb (by decide +kernel) (by decide) ?_
    refine lv_isub hx hb (by decide +kernel) ?_
    rw [← Int32.ofInt_eq_ofNat (n := L), i32_sub]
    refine lv_icmp_gt (off := 1557) (tgt := 1581) hx hb (by decide +kernel) (by decide) (fun _ => (fin i h g).a H ls hP hM hS hl) (fun c0 => absurd ((i32_lt _ _).mpr ?_) c0)
    rw [w32_id (by omega) (by omega), w32_id (by omega) (by omega)]
    omega
  | succ q ih =>
    intro i h g B q1 i0 i1 S R hB
    refine ⟨(), fun H ls hP hM hS hl => ?_⟩
    refine lv_iload_n hx hb (by decide +kernel : decode code 18 = .ok (.iload_n 3, 1)) rfl (lv_at hl 3 rfl) ?_
    refine lv_aload_n hx hb (by decide +kernel : decode code 19 = .ok (.aload_n 0, 1)) rfl (lv_at hl 0 rfl) ?_
    refine va_slen (A := fun q => s.heap.size ≤ q) hx hb hX hbl (Nat.not_le.mpr hbl) hS (by decide +kernel) ?_
    refine lv_bipush (n := 10) (v := Int32.ofInt 10) hx hb (by decide +kernel) (by decide) ?_
    refine lv_isub hx hb (by decide +kernel) ?_
    rw [← Int32.ofInt_eq_ofNat (n := L), i32_sub]
    refine lv_icmp_gt (off := 1557) (tgt := 1581) hx hb (by decide +kernel) (by decide) (fun _ => (fin i h g).a H ls hP hM hS hl) (fun c0 => ?_)
    have c1 : ¬ (L : Int) - 10 < i := fun z => c0 ((i32_lt _ _).mpr (by rw [w32_id (by omega) (by omega), w32_id (by omega) (by omega)]; exact z))
    refine (lk_iter X hL i0 (by omega) R (by omega) S fun h' g' S' R' => ?_).a H ls hP hM hS hl
    have nx := ih (i + 10) h' g' (B + 1200000000) (by omega) (by omega) (by omega) S' R' (by omega)
    refine ⟨(), fun H ls hP hM hS hl => ?_⟩
    refine lv_iinc (k := 3) (x := Int32.ofInt i) (v := Int32.ofInt (i + 10)) (lv' := [(3, .int (Int32.ofInt (i + 10))), (0, .ref b), (1, .ref (αC 1)), (2, .ref (αM 1))]) hx hb (by decide +kernel : decode code 1575 = .ok (.iinc 3 10, 3)) hl rfl (i32_add i 10) (by decide) rfl (fun ls hl => ?_)
    refine lv_goto (tgt := 18) hx hb (by decide +kernel : decode code 1578 = .ok (.goto (-1560), 3)) (by decide) ?_
    exact nx.a H ls hP hM hS (lv_sub hl [1, 2, 3, 0] rfl)
