/-! the plain instructions -/
theorem i32_div (x y : Int) : Int32.ofInt x / Int32.ofInt y = Int32.ofInt (Int.tdiv (w32 x) (w32 y)) := by
  rw [← Int32.toInt_inj, Int32.toInt_div, w32_eq, w32_eq, Int32.toInt_ofInt]
theorem i32_rem (x y : Int) : Int32.ofInt x - Int32.ofInt x / Int32.ofInt y * Int32.ofInt y = Int32.ofInt (Int.tmod (w32 x) (w32 y)) := by
  have h := rem_toInt (Int32.ofInt x) (Int32.ofInt y)
  rw [w32_eq, w32_eq] at h
  rw [← i32_of (Int32.ofInt x - _), h]
theorem i64_div (x y : Int) : Int64.ofInt x / Int64.ofInt y = Int64.ofInt (Int.tdiv (w64 x) (w64 y)) := by
  rw [← Int64.toInt_inj, Int64.toInt_div, w64_eq, w64_eq, Int64.toInt_ofInt]
theorem i32_0 (x : Int) : Int32.ofInt x = 0 ↔ w32 x = 0 := by
  rw [show (0 : Int32) = Int32.ofInt 0 from rfl, w32_inj]
  exact Iff.rfl
theorem i64_0 (x : Int) : Int64.ofInt x = 0 ↔ w64 x = 0 := by
  rw [show (0 : Int64) = Int64.ofInt 0 from rfl, w64_inj]
  exact Iff.rfl
theorem i32_lt (x y : Int) : Int32.ofInt x < Int32.ofInt y ↔ w32 x < w32 y := by
  rw [Int32.lt_iff_toInt_lt, w32_eq, w32_eq]
theorem i32_le (x y : Int) : Int32.ofInt x ≤ Int32.ofInt y ↔ w32 x ≤ w32 y := by
  rw [Int32.le_iff_toInt_le, w32_eq, w32_eq]
theorem i64_lt (x y : Int) : Int64.ofInt x < Int64.ofInt y ↔ w64 x < w64 y := by
  rw [Int64.lt_iff_toInt_lt, w64_eq, w64_eq]
theorem i32_lt0 (x : Int) : Int32.ofInt x < 0 ↔ w32 x < 0 := by
  rw [show (0 : Int32) = Int32.ofInt 0 from rfl, i32_lt]
  exact Iff.rfl
theorem i32_0lt (x : Int) : 0 < Int32.ofInt x ↔ 0 < w32 x := by
  rw [show (0 : Int32) = Int32.ofInt 0 from rfl, i32_lt]
  exact Iff.rfl
theorem i32_le0 (x : Int) : Int32.ofInt x ≤ 0 ↔ w32 x ≤ 0 := by
  rw [show (0 : Int32) = Int32.ofInt 0 from rfl, i32_le]
  exact Iff.rfl
theorem i32_0le (x : Int) : 0 ≤ Int32.ofInt x ↔ 0 ≤ w32 x := by
  rw [show (0 : Int32) = Int32.ofInt 0 from rfl, i32_le]
  exact Iff.rfl
theorem i32_l (x : Int) : (Int32.ofInt x).toInt64 = Int64.ofInt (w32 x) := by
  rw [← Int64.toInt_inj, Int32.toInt_toInt64, w32_eq, w64_eq]
  have := w32_lt x
  rw [w64_id (by omega) (by omega)]
theorem i64_i (x : Int) : (Int64.ofInt x).toInt32 = Int32.ofInt x := by
  rw [← Int32.toInt_inj, Int64.toInt_toInt32, Int32.toInt_ofInt, Int64.toInt_ofInt]
  exact Int.bmod_bmod_of_dvd (by decide)
theorem i32_b (x : Int) : (Int32.ofInt x).toInt8.toInt32 = Int32.ofInt (w8 x) := by
  rw [← Int32.toInt_inj, Int8.toInt_toInt32, Int32.toInt_toInt8, w32_eq, w32_eq, Int.bmod_def]
  unfold w8 w32
  split <;> omega
theorem i32_c (x : Int) : ((Int32.ofInt x).toUInt32 % 65536).toInt32 = Int32.ofInt (jx_i2c x) := by
  rw [pk_char]
  unfold jx_i2c nI
  have h1 : ((Int32.ofInt x).toBitVec.toNat % 65536 : Nat) = (w32 x % 65536).toNat := by
    have h2 : ((Int32.ofInt x).toBitVec.toNat : Int) % 4294967296 = w32 x % 4294967296 := by
      rw [← w32_eq]
      have h3 : (Int32.ofInt x).toInt = (Int32.ofInt x).toBitVec.toInt := rfl
      rw [h3, BitVec.toInt_eq_toNat_bmod, Int.bmod_def]
      split <;> omega
    omega
  rw [h1]
  have h4 : (0 : Int) ≤ w32 x % 65536 := Int.emod_nonneg _ (by decide)
  rw [show Int32.ofNat (w32 x % 65536).toNat = Int32.ofInt ((w32 x % 65536).toNat : Int) from rfl, Int.toNat_of_nonneg h4]
section JP
variable {p : Program} {l : Launch} {e : Env} {s : State} {m : MethodId} {args : Array Value} {below : List Frame} {meth : Method} {c : Code} {Q : State → Prop}
variable {o d cn sn : Nat} {R : Room} {hd : jx_Hd} {w : jx_Wd} {D : va_G} {tA : Nat → ClassId} {α : Int → Nat} {pc : Nat} {lv : jx_L} {st : List jx_V} {h : jx_H}
theorem js_iconst (X : jx_Ctx p s m args meth c o hd w D tA α) {n : Int} (hdg : decode hd.2.1 pc = .ok (.iconst n, 1)) (hn : jx_Gd p l e s m args below meth c Q R cn sn hd w D tA α (pc + 1) lv (vi n :: st) h) : jx_Gd p l e s m args below meth c Q R cn sn hd w D tA α pc lv st h := by
  intro H locs ls hP hS hl
  exact lv_iconst X.1 X.2.1 hdg rfl (hn H locs ls hP hS hl)
theorem js_bipush (X : jx_Ctx p s m args meth c o hd w D tA α) {n : Int} (hdg : decode hd.2.1 pc = .ok (.bipush n, 2)) (hv : (Int8.ofInt n).toInt32 = Int32.ofInt n) (hn : jx_Gd p l e s m args below meth c Q R cn sn hd w D tA α (pc + 2) lv (vi n :: st) h) : jx_Gd p l e s m args below meth c Q R cn sn hd w D tA α pc lv st h := by
  intro H locs ls hP hS hl
  exact lv_bipush X.1 X.2.1 hdg hv (hn H locs ls hP hS hl)
theorem js_sipush (X : jx_Ctx p s m args meth c o hd w D tA α) {n : Int} (hdg : decode hd.2.1 pc = .ok (.sipush n, 3)) (hv : (Int16.ofInt n).toInt32 = Int32.ofInt n) (hn : jx_Gd p l e s m args below meth c Q R cn sn hd w D tA α (pc + 3) lv (vi n :: st) h) : jx_Gd p l e s m args below meth c Q R cn sn hd w D tA α pc lv st h := by
  intro H locs ls hP hS hl
  exact lv_sipush X.1 X.2.1 hdg hv (hn H locs ls hP hS hl)
theorem js_lconst (X : jx_Ctx p s m args meth c o hd w D tA α) {n : Fin 2} (hdg : decode hd.2.1 pc = .ok (.lconst n, 1)) (hn : jx_Gd p l e s m args below meth c Q R cn sn hd w D tA α (pc + 1) lv (vl ((n : Nat) : Int) :: st) h) : jx_Gd p l e s m args below meth c Q R cn sn hd w D tA α pc lv st h := by
  intro H locs ls hP hS hl
  exact lv_lconst X.1 X.2.1 hdg rfl (hn H locs ls hP hS hl)
theorem js_iload (X : jx_Ctx p s m args meth c o hd w D tA α) {n : Nat} (hdg : decode hd.2.1 pc = .ok (.iload n, 2)) (hn : jx_lgi lv n fun x => jx_Gd p l e s m args below meth c Q R cn sn hd w D tA α (pc + 2) lv (vi x :: st) h) : jx_Gd p l e s m args below meth c Q R cn sn hd w D tA α pc lv st h := by
  unfold jx_lgi at hn
  split at hn
  · rename_i x hx
    intro H locs ls hP hS hl
    exact lv_iload X.1 X.2.1 hdg (jx_has hl hx) (hn H locs ls hP hS hl)
  · exact hn.elim
theorem js_iload_n (X : jx_Ctx p s m args meth c o hd w D tA α) {n : Fin 4} (hdg : decode hd.2.1 pc = .ok (.iload_n n, 1)) (hn : jx_lgi lv (n : Nat) fun x => jx_Gd p l e s m args below meth c Q R cn sn hd w D tA α (pc + 1) lv (vi x :: st) h) : jx_Gd p l e s m args below meth c Q R cn sn hd w D tA α pc lv st h := by
  unfold jx_lgi at hn
  split at hn
  · rename_i x hx
    intro H locs ls hP hS hl
    exact lv_iload_n X.1 X.2.1 hdg rfl (jx_has hl hx) (hn H locs ls hP hS hl)
  · exact hn.elim
theorem js_lload (X : jx_Ctx p s m args meth c o hd w D tA α) {n : Nat} (hdg : decode hd.2.1 pc = .ok (.lload n, 2)) (hn : jx_lgl lv n fun x => jx_Gd p l e s m args below meth c Q R cn sn hd w D tA α (pc + 2) lv (vl x :: st) h) : jx_Gd p l e s m args below meth c Q R cn sn hd w D tA α pc lv st h := by
  unfold jx_lgl at hn
  split at hn
  · rename_i x hx
    intro H locs ls hP hS hl
    exact lv_lload X.1 X.2.1 hdg (jx_has hl hx) (hn H locs ls hP hS hl)
  · exact hn.elim
theorem js_lload_n (X : jx_Ctx p s m args meth c o hd w D tA α) {n : Fin 4} (hdg : decode hd.2.1 pc = .ok (.lload_n n, 1)) (hn : jx_lgl lv (n : Nat) fun x => jx_Gd p l e s m args below meth c Q R cn sn hd w D tA α (pc + 1) lv (vl x :: st) h) : jx_Gd p l e s m args below meth c Q R cn sn hd w D tA α pc lv st h := by
  unfold jx_lgl at hn
  split at hn
  · rename_i x hx
    intro H locs ls hP hS hl
    exact lv_lload_n X.1 X.2.1 hdg rfl (jx_has hl hx) (hn H locs ls hP hS hl)
  · exact hn.elim
theorem js_aload (X : jx_Ctx p s m args meth c o hd w D tA α) {n : Nat} (hdg : decode hd.2.1 pc = .ok (.aload n, 2)) (hn : jx_lga lv n fun x => 0 ≤ x ∧ jx_Gd p l e s m args below meth c Q R cn sn hd w D tA α (pc + 2) lv (vr x :: st) h) : jx_Gd p l e s m args below meth c Q R cn sn hd w D tA α pc lv st h := by
  unfold jx_lga at hn
  split at hn
  · rename_i x hx
    obtain ⟨h0, hn⟩ := hn
    intro H locs ls hP hS hl
    have h1 := jx_has hl hx
    have h2 := hn H locs ls hP hS hl
    rw [show jx_cv α (.inr (.inr x)) = .ref (α x) from jx_ref α h0] at h1
    rw [List.map_cons, jx_ref α h0] at h2
    exact lv_aload X.1 X.2.1 hdg h1 h2
  · exact hn.elim
theorem js_aload_n (X : jx_Ctx p s m args meth c o hd w D tA α) {n : Fin 4} (hdg : decode hd.2.1 pc = .ok (.aload_n n, 1)) (hn : jx_lga lv (n : Nat) fun x => 0 ≤ x ∧ jx_Gd p l e s m args below meth c Q R cn sn hd w D tA α (pc + 1) lv (vr x :: st) h) : jx_Gd p l e s m args below meth c Q R cn sn hd w D tA α pc lv st h := by
  unfold jx_lga at hn
  split at hn
  · rename_i x hx
    obtain ⟨h0, hn⟩ := hn
    intro H locs ls hP hS hl
    have h1 := jx_has hl hx
    have h2 := hn H locs ls hP hS hl
    rw [show jx_cv α (.inr (.inr x)) = .ref (α x) from jx_ref α h0] at h1
    rw [List.map_cons, jx_ref α h0] at h2
    exact lv_aload_n X.1 X.2.1 hdg rfl h1 h2
  · exact hn.elim
theorem js_istore (X : jx_Ctx p s m args meth c o hd w D tA α) {n : Nat} (hdg : decode hd.2.1 pc = .ok (.istore n, 2)) (hb : n < hd.2.2.1) (hn : jx_i1 st fun x r => jx_Gd p l e s m args below meth c Q R cn sn hd w D tA α (pc + 2) (jx_ls n (vi x) (jx_lc n false lv)) r h) : jx_Gd p l e s m args below meth c Q R cn sn hd w D tA α pc lv st h := by
  unfold jx_i1 at hn
  split at hn
  · rename_i x r
    intro H locs ls hP hS hl
    exact lv_istore X.1 X.2.1 hdg hl hb rfl (fun ls1 h1 => hn H locs ls1 hP hS (jx_sto1 h1))
  · exact hn.elim
theorem js_istore_n (X : jx_Ctx p s m args meth c o hd w D tA α) {n : Fin 4} (hdg : decode hd.2.1 pc = .ok (.istore_n n, 1)) (hb : (n : Nat) < hd.2.2.1) (hn : jx_i1 st fun x r => jx_Gd p l e s m args below meth c Q R cn sn hd w D tA α (pc + 1) (jx_ls (n : Nat) (vi x) (jx_lc (n : Nat) false lv)) r h) : jx_Gd p l e s m args below meth c Q R cn sn hd w D tA α pc lv st h := by
  unfold jx_i1 at hn
  split at hn
  · rename_i x r
    intro H locs ls hP hS hl
    exact lv_istore_n X.1 X.2.1 hdg rfl hl hb rfl (fun ls1 h1 => hn H locs ls1 hP hS (jx_sto1 h1))
  · exact hn.elim
theorem js_lstore (X : jx_Ctx p s m args meth c o hd w D tA α) {n : Nat} (hdg : decode hd.2.1 pc = .ok (.lstore n, 2)) (hb : n + 1 < hd.2.2.1) (hn : jx_l1 st fun x r => jx_Gd p l e s m args below meth c Q R cn sn hd w D tA α (pc + 2) (jx_ls n (vl x) (jx_lc n true lv)) r h) : jx_Gd p l e s m args below meth c Q R cn sn hd w D tA α pc lv st h := by
  unfold jx_l1 at hn
  split at hn
  · rename_i x r
    intro H locs ls hP hS hl
    exact lv_lstore X.1 X.2.1 hdg hl hb rfl (fun ls1 h1 => hn H locs ls1 hP hS (jx_sto2 h1))
  · exact hn.elim
theorem js_lstore_n (X : jx_Ctx p s m args meth c o hd w D tA α) {n : Fin 4} (hdg : decode hd.2.1 pc = .ok (.lstore_n n, 1)) (hb : (n : Nat) + 1 < hd.2.2.1) (hn : jx_l1 st fun x r => jx_Gd p l e s m args below meth c Q R cn sn hd w D tA α (pc + 1) (jx_ls (n : Nat) (vl x) (jx_lc (n : Nat) true lv)) r h) : jx_Gd p l e s m args below meth c Q R cn sn hd w D tA α pc lv st h := by
  unfold jx_l1 at hn
  split at hn
  · rename_i x r
    intro H locs ls hP hS hl
    exact lv_lstore_n X.1 X.2.1 hdg rfl hl hb rfl (fun ls1 h1 => hn H locs ls1 hP hS (jx_sto2 h1))
  · exact hn.elim
theorem js_astore (X : jx_Ctx p s m args meth c o hd w D tA α) {n : Nat} (hdg : decode hd.2.1 pc = .ok (.astore n, 2)) (hb : n < hd.2.2.1) (hn : jx_a1 st fun x r => 0 ≤ x ∧ jx_Gd p l e s m args below meth c Q R cn sn hd w D tA α (pc + 2) (jx_ls n (vr x) (jx_lc n false lv)) r h) : jx_Gd p l e s m args below meth c Q R cn sn hd w D tA α pc lv st h := by
  unfold jx_a1 at hn
  split at hn
  · rename_i x r
    obtain ⟨h0, hn⟩ := hn
    intro H locs ls hP hS hl
    rw [List.map_cons, show jx_cv α (.inr (.inr x)) = .ref (α x) from jx_ref α h0]
    refine lv_astore X.1 X.2.1 hdg hl hb rfl (fun ls1 h1 => hn H locs ls1 hP hS (jx_sto1 (v := vr x) ?_))
    rw [jx_ref α h0]
    exact h1
  · exact hn.elim
theorem js_astore_n (X : jx_Ctx p s m args meth c o hd w D tA α) {n : Fin 4} (hdg : decode hd.2.1 pc = .ok (.astore_n n, 1)) (hb : (n : Nat) < hd.2.2.1) (hn : jx_a1 st fun x r => 0 ≤ x ∧ jx_Gd p l e s m args below meth c Q R cn sn hd w D tA α (pc + 1) (jx_ls (n : Nat) (vr x) (jx_lc (n : Nat) false lv)) r h) : jx_Gd p l e s m args below meth c Q R cn sn hd w D tA α pc lv st h := by
  unfold jx_a1 at hn
  split at hn
  · rename_i x r
    obtain ⟨h0, hn⟩ := hn
    intro H locs ls hP hS hl
    rw [List.map_cons, show jx_cv α (.inr (.inr x)) = .ref (α x) from jx_ref α h0]
    refine lv_astore_n X.1 X.2.1 hdg rfl hl hb rfl (fun ls1 h1 => hn H locs ls1 hP hS (jx_sto1 (v := vr x) ?_))
    rw [jx_ref α h0]
    exact h1
  · exact hn.elim
theorem js_iinc (X : jx_Ctx p s m args meth c o hd w D tA α) {n : Nat} {z : Int} (hdg : decode hd.2.1 pc = .ok (.iinc n z, 3)) (hb : n < hd.2.2.1) (hn : jx_lgi lv n fun x => jx_Gd p l e s m args below meth c Q R cn sn hd w D tA α (pc + 3) (jx_ls n (vi (x + z)) (jx_lc n false lv)) st h) : jx_Gd p l e s m args below meth c Q R cn sn hd w D tA α pc lv st h := by
  unfold jx_lgi at hn
  split at hn
  · rename_i x hx
    intro H locs ls hP hS hl
    obtain ⟨k, hk⟩ := List.getElem?_of_mem (List.mem_map.mpr ⟨(n, .inl x), jx_lk_mem hx, rfl⟩ : ((n, jx_cv α (.inl x)) : Nat × Value) ∈ jx_cl α lv)
    exact lv_iinc (x := Int32.ofInt x) (v := Int32.ofInt (x + z)) X.1 X.2.1 hdg hl hk (i32_add x z) hb rfl (fun ls1 h1 => hn H locs ls1 hP hS (jx_sto1 (v := vi (x + z)) h1))
  · exact hn.elim
theorem js_iadd (X : jx_Ctx p s m args meth c o hd w D tA α) (hdg : decode hd.2.1 pc = .ok (.iadd, 1)) (hn : jx_i2 st fun x y r => jx_Gd p l e s m args below meth c Q R cn sn hd w D tA α (pc + 1) lv (vi (x + y) :: r) h) : jx_Gd p l e s m args below meth c Q R cn sn hd w D tA α pc lv st h := by
  unfold jx_i2 at hn
  split at hn
  · rename_i y x r
    intro H locs ls hP hS hl
    refine lv_iadd X.1 X.2.1 hdg ?_
    have h1 := hn H locs ls hP hS hl
    rw [i32_add]
    exact h1
  · exact hn.elim
theorem js_isub (X : jx_Ctx p s m args meth c o hd w D tA α) (hdg : decode hd.2.1 pc = .ok (.isub, 1)) (hn : jx_i2 st fun x y r => jx_Gd p l e s m args below meth c Q R cn sn hd w D tA α (pc + 1) lv (vi (x - y) :: r) h) : jx_Gd p l e s m args below meth c Q R cn sn hd w D tA α pc lv st h := by
  unfold jx_i2 at hn
  split at hn
  · rename_i y x r
    intro H locs ls hP hS hl
    refine lv_isub X.1 X.2.1 hdg ?_
    have h1 := hn H locs ls hP hS hl
    rw [i32_sub]
    exact h1
  · exact hn.elim
theorem js_imul (X : jx_Ctx p s m args meth c o hd w D tA α) (hdg : decode hd.2.1 pc = .ok (.imul, 1)) (hn : jx_i2 st fun x y r => jx_Gd p l e s m args below meth c Q R cn sn hd w D tA α (pc + 1) lv (vi (x * y) :: r) h) : jx_Gd p l e s m args below meth c Q R cn sn hd w D tA α pc lv st h := by
  unfold jx_i2 at hn
  split at hn
  · rename_i y x r
    intro H locs ls hP hS hl
    refine lv_imul X.1 X.2.1 hdg ?_
    have h1 := hn H locs ls hP hS hl
    rw [i32_mul]
    exact h1
  · exact hn.elim
theorem js_iand (X : jx_Ctx p s m args meth c o hd w D tA α) (hdg : decode hd.2.1 pc = .ok (.iand, 1)) (hn : jx_i2 st fun x y r => jx_Gd p l e s m args below meth c Q R cn sn hd w D tA α (pc + 1) lv (vi (jx_and x y) :: r) h) : jx_Gd p l e s m args below meth c Q R cn sn hd w D tA α pc lv st h := by
  unfold jx_i2 at hn
  split at hn
  · rename_i y x r
    intro H locs ls hP hS hl
    refine lv_iand X.1 X.2.1 hdg ?_
    have h0 : Int32.ofInt (jx_and x y) = _ := i32_of _
    have h1 := hn H locs ls hP hS hl
    rw [List.map_cons, show jx_cv α (vi (jx_and x y)) = .int (Int32.ofInt (jx_and x y)) from rfl, h0] at h1
    exact h1
  · exact hn.elim
theorem js_ior (X : jx_Ctx p s m args meth c o hd w D tA α) (hdg : decode hd.2.1 pc = .ok (.ior, 1)) (hn : jx_i2 st fun x y r => jx_Gd p l e s m args below meth c Q R cn sn hd w D tA α (pc + 1) lv (vi (jx_or x y) :: r) h) : jx_Gd p l e s m args below meth c Q R cn sn hd w D tA α pc lv st h := by
  unfold jx_i2 at hn
  split at hn
  · rename_i y x r
    intro H locs ls hP hS hl
    refine lv_ior X.1 X.2.1 hdg ?_
    have h0 : Int32.ofInt (jx_or x y) = _ := i32_of _
    have h1 := hn H locs ls hP hS hl
    rw [List.map_cons, show jx_cv α (vi (jx_or x y)) = .int (Int32.ofInt (jx_or x y)) from rfl, h0] at h1
    exact h1
  · exact hn.elim
theorem js_ixor (X : jx_Ctx p s m args meth c o hd w D tA α) (hdg : decode hd.2.1 pc = .ok (.ixor, 1)) (hn : jx_i2 st fun x y r => jx_Gd p l e s m args below meth c Q R cn sn hd w D tA α (pc + 1) lv (vi (jx_xor x y) :: r) h) : jx_Gd p l e s m args below meth c Q R cn sn hd w D tA α pc lv st h := by
  unfold jx_i2 at hn
  split at hn
  · rename_i y x r
    intro H locs ls hP hS hl
    refine lv_ixor X.1 X.2.1 hdg ?_
    have h0 : Int32.ofInt (jx_xor x y) = _ := i32_of _
    have h1 := hn H locs ls hP hS hl
    rw [List.map_cons, show jx_cv α (vi (jx_xor x y)) = .int (Int32.ofInt (jx_xor x y)) from rfl, h0] at h1
    exact h1
  · exact hn.elim
theorem js_ishl (X : jx_Ctx p s m args meth c o hd w D tA α) (hdg : decode hd.2.1 pc = .ok (.ishl, 1)) (hn : jx_i2 st fun x y r => jx_Gd p l e s m args below meth c Q R cn sn hd w D tA α (pc + 1) lv (vi (jx_shl x y) :: r) h) : jx_Gd p l e s m args below meth c Q R cn sn hd w D tA α pc lv st h := by
  unfold jx_i2 at hn
  split at hn
  · rename_i y x r
    intro H locs ls hP hS hl
    refine lv_ishl X.1 X.2.1 hdg ?_
    have h0 : Int32.ofInt (jx_shl x y) = _ := i32_of _
    have h1 := hn H locs ls hP hS hl
    rw [List.map_cons, show jx_cv α (vi (jx_shl x y)) = .int (Int32.ofInt (jx_shl x y)) from rfl, h0] at h1
    exact h1
  · exact hn.elim
theorem js_ishr (X : jx_Ctx p s m args meth c o hd w D tA α) (hdg : decode hd.2.1 pc = .ok (.ishr, 1)) (hn : jx_i2 st fun x y r => jx_Gd p l e s m args below meth c Q R cn sn hd w D tA α (pc + 1) lv (vi (jx_shr x y) :: r) h) : jx_Gd p l e s m args below meth c Q R cn sn hd w D tA α pc lv st h := by
  unfold jx_i2 at hn
  split at hn
  · rename_i y x r
    intro H locs ls hP hS hl
    refine lv_ishr X.1 X.2.1 hdg ?_
    have h0 : Int32.ofInt (jx_shr x y) = _ := i32_of _
    have h1 := hn H locs ls hP hS hl
    rw [List.map_cons, show jx_cv α (vi (jx_shr x y)) = .int (Int32.ofInt (jx_shr x y)) from rfl, h0] at h1
    exact h1
  · exact hn.elim
theorem js_idiv (X : jx_Ctx p s m args meth c o hd w D tA α) (hdg : decode hd.2.1 pc = .ok (.idiv, 1)) (hn : jx_i2 st fun x y r => ¬ w32 y = 0 ∧ jx_Gd p l e s m args below meth c Q R cn sn hd w D tA α (pc + 1) lv (vi (Int.tdiv (w32 x) (w32 y)) :: r) h) : jx_Gd p l e s m args below meth c Q R cn sn hd w D tA α pc lv st h := by
  unfold jx_i2 at hn
  split at hn
  · rename_i y x r
    obtain ⟨h0, hn⟩ := hn
    intro H locs ls hP hS hl
    refine lv_idiv X.1 X.2.1 hdg (fun q => h0 ((i32_0 _).mp q)) ?_
    have h1 := hn H locs ls hP hS hl
    rw [i32_div]
    exact h1
  · exact hn.elim
theorem js_irem (X : jx_Ctx p s m args meth c o hd w D tA α) (hdg : decode hd.2.1 pc = .ok (.irem, 1)) (hn : jx_i2 st fun x y r => ¬ w32 y = 0 ∧ jx_Gd p l e s m args below meth c Q R cn sn hd w D tA α (pc + 1) lv (vi (Int.tmod (w32 x) (w32 y)) :: r) h) : jx_Gd p l e s m args below meth c Q R cn sn hd w D tA α pc lv st h := by
  unfold jx_i2 at hn
  split at hn
  · rename_i y x r
    obtain ⟨h0, hn⟩ := hn
    intro H locs ls hP hS hl
    refine lv_irem X.1 X.2.1 hdg (fun q => h0 ((i32_0 _).mp q)) ?_
    have h1 := hn H locs ls hP hS hl
    rw [i32_rem]
    exact h1
  · exact hn.elim
theorem js_ladd (X : jx_Ctx p s m args meth c o hd w D tA α) (hdg : decode hd.2.1 pc = .ok (.ladd, 1)) (hn : jx_l2 st fun x y r => jx_Gd p l e s m args below meth c Q R cn sn hd w D tA α (pc + 1) lv (vl (x + y) :: r) h) : jx_Gd p l e s m args below meth c Q R cn sn hd w D tA α pc lv st h := by
  unfold jx_l2 at hn
  split at hn
  · rename_i y x r
    intro H locs ls hP hS hl
    refine lv_ladd X.1 X.2.1 hdg ?_
    have h1 := hn H locs ls hP hS hl
    rw [i64_add]
    exact h1
  · exact hn.elim
theorem js_lsub (X : jx_Ctx p s m args meth c o hd w D tA α) (hdg : decode hd.2.1 pc = .ok (.lsub, 1)) (hn : jx_l2 st fun x y r => jx_Gd p l e s m args below meth c Q R cn sn hd w D tA α (pc + 1) lv (vl (x - y) :: r) h) : jx_Gd p l e s m args below meth c Q R cn sn hd w D tA α pc lv st h := by
  unfold jx_l2 at hn
  split at hn
  · rename_i y x r
    intro H locs ls hP hS hl
    refine lv_lsub X.1 X.2.1 hdg ?_
    have h1 := hn H locs ls hP hS hl
    rw [i64_sub]
    exact h1
  · exact hn.elim
theorem js_lmul (X : jx_Ctx p s m args meth c o hd w D tA α) (hdg : decode hd.2.1 pc = .ok (.lmul, 1)) (hn : jx_l2 st fun x y r => jx_Gd p l e s m args below meth c Q R cn sn hd w D tA α (pc + 1) lv (vl (x * y) :: r) h) : jx_Gd p l e s m args below meth c Q R cn sn hd w D tA α pc lv st h := by
  unfold jx_l2 at hn
  split at hn
  · rename_i y x r
    intro H locs ls hP hS hl
    refine lv_lmul X.1 X.2.1 hdg ?_
    have h1 := hn H locs ls hP hS hl
    rw [i64_mul]
    exact h1
  · exact hn.elim
theorem js_land (X : jx_Ctx p s m args meth c o hd w D tA α) (hdg : decode hd.2.1 pc = .ok (.land, 1)) (hn : jx_l2 st fun x y r => jx_Gd p l e s m args below meth c Q R cn sn hd w D tA α (pc + 1) lv (vl (jx_land x y) :: r) h) : jx_Gd p l e s m args below meth c Q R cn sn hd w D tA α pc lv st h := by
  unfold jx_l2 at hn
  split at hn
  · rename_i y x r
    intro H locs ls hP hS hl
    refine lv_land X.1 X.2.1 hdg ?_
    have h0 : Int64.ofInt (jx_land x y) = _ := i64_of _
    have h1 := hn H locs ls hP hS hl
    rw [List.map_cons, show jx_cv α (vl (jx_land x y)) = .long (Int64.ofInt (jx_land x y)) from rfl, h0] at h1
    exact h1
  · exact hn.elim
theorem js_lor (X : jx_Ctx p s m args meth c o hd w D tA α) (hdg : decode hd.2.1 pc = .ok (.lor, 1)) (hn : jx_l2 st fun x y r => jx_Gd p l e s m args below meth c Q R cn sn hd w D tA α (pc + 1) lv (vl (jx_lor x y) :: r) h) : jx_Gd p l e s m args below meth c Q R cn sn hd w D tA α pc lv st h := by
  unfold jx_l2 at hn
  split at hn
  · rename_i y x r
    intro H locs ls hP hS hl
    refine lv_lor X.1 X.2.1 hdg ?_
    have h0 : Int64.ofInt (jx_lor x y) = _ := i64_of _
    have h1 := hn H locs ls hP hS hl
    rw [List.map_cons, show jx_cv α (vl (jx_lor x y)) = .long (Int64.ofInt (jx_lor x y)) from rfl, h0] at h1
    exact h1
  · exact hn.elim
theorem js_ldiv (X : jx_Ctx p s m args meth c o hd w D tA α) (hdg : decode hd.2.1 pc = .ok (.ldiv, 1)) (hn : jx_l2 st fun x y r => ¬ w64 y = 0 ∧ jx_Gd p l e s m args below meth c Q R cn sn hd w D tA α (pc + 1) lv (vl (Int.tdiv (w64 x) (w64 y)) :: r) h) : jx_Gd p l e s m args below meth c Q R cn sn hd w D tA α pc lv st h := by
  unfold jx_l2 at hn
  split at hn
  · rename_i y x r
    obtain ⟨h0, hn⟩ := hn
    intro H locs ls hP hS hl
    refine lv_ldiv X.1 X.2.1 hdg (fun q => h0 ((i64_0 _).mp q)) ?_
    have h1 := hn H locs ls hP hS hl
    rw [i64_div]
    exact h1
  · exact hn.elim
theorem js_ineg (X : jx_Ctx p s m args meth c o hd w D tA α) (hdg : decode hd.2.1 pc = .ok (.ineg, 1)) (hn : jx_i1 st fun x r => jx_Gd p l e s m args below meth c Q R cn sn hd w D tA α (pc + 1) lv (vi (-x) :: r) h) : jx_Gd p l e s m args below meth c Q R cn sn hd w D tA α pc lv st h := by
  unfold jx_i1 at hn
  split at hn
  · rename_i x r
    intro H locs ls hP hS hl
    refine lv_ineg X.1 X.2.1 hdg ?_
    have h1 := hn H locs ls hP hS hl
    rw [i32_neg]
    exact h1
  · exact hn.elim
theorem js_lneg (X : jx_Ctx p s m args meth c o hd w D tA α) (hdg : decode hd.2.1 pc = .ok (.lneg, 1)) (hn : jx_l1 st fun x r => jx_Gd p l e s m args below meth c Q R cn sn hd w D tA α (pc + 1) lv (vl (-x) :: r) h) : jx_Gd p l e s m args below meth c Q R cn sn hd w D tA α pc lv st h := by
  unfold jx_l1 at hn
  split at hn
  · rename_i x r
    intro H locs ls hP hS hl
    refine lv_lneg X.1 X.2.1 hdg ?_
    have h1 := hn H locs ls hP hS hl
    rw [i64_neg]
    exact h1
  · exact hn.elim
theorem js_i2l (X : jx_Ctx p s m args meth c o hd w D tA α) (hdg : decode hd.2.1 pc = .ok (.i2l, 1)) (hn : jx_i1 st fun x r => jx_Gd p l e s m args below meth c Q R cn sn hd w D tA α (pc + 1) lv (vl (w32 x) :: r) h) : jx_Gd p l e s m args below meth c Q R cn sn hd w D tA α pc lv st h := by
  unfold jx_i1 at hn
  split at hn
  · rename_i x r
    intro H locs ls hP hS hl
    refine lv_i2l X.1 X.2.1 hdg (i32_l x) ?_
    have h1 := hn H locs ls hP hS hl
    exact h1
  · exact hn.elim
theorem js_l2i (X : jx_Ctx p s m args meth c o hd w D tA α) (hdg : decode hd.2.1 pc = .ok (.l2i, 1)) (hn : jx_l1 st fun x r => jx_Gd p l e s m args below meth c Q R cn sn hd w D tA α (pc + 1) lv (vi x :: r) h) : jx_Gd p l e s m args below meth c Q R cn sn hd w D tA α pc lv st h := by
  unfold jx_l1 at hn
  split at hn
  · rename_i x r
    intro H locs ls hP hS hl
    refine lv_l2i X.1 X.2.1 hdg (i64_i x) ?_
    have h1 := hn H locs ls hP hS hl
    exact h1
  · exact hn.elim
theorem js_i2b (X : jx_Ctx p s m args meth c o hd w D tA α) (hdg : decode hd.2.1 pc = .ok (.i2b, 1)) (hn : jx_i1 st fun x r => jx_Gd p l e s m args below meth c Q R cn sn hd w D tA α (pc + 1) lv (vi (w8 x) :: r) h) : jx_Gd p l e s m args below meth c Q R cn sn hd w D tA α pc lv st h := by
  unfold jx_i1 at hn
  split at hn
  · rename_i x r
    intro H locs ls hP hS hl
    refine lv_i2b X.1 X.2.1 hdg (i32_b x) ?_
    have h1 := hn H locs ls hP hS hl
    exact h1
  · exact hn.elim
theorem js_i2c (X : jx_Ctx p s m args meth c o hd w D tA α) (hdg : decode hd.2.1 pc = .ok (.i2c, 1)) (hn : jx_i1 st fun x r => jx_Gd p l e s m args below meth c Q R cn sn hd w D tA α (pc + 1) lv (vi (jx_i2c x) :: r) h) : jx_Gd p l e s m args below meth c Q R cn sn hd w D tA α pc lv st h := by
  unfold jx_i1 at hn
  split at hn
  · rename_i x r
    intro H locs ls hP hS hl
    refine lv_i2c X.1 X.2.1 hdg (i32_c x) ?_
    have h1 := hn H locs ls hP hS hl
    exact h1
  · exact hn.elim
theorem js_iushr (X : jx_Ctx p s m args meth c o hd w D tA α) (hdg : decode hd.2.1 pc = .ok (.iushr, 1)) (hn : jx_i2 st fun x y r => jx_Gd p l e s m args below meth c Q R cn sn hd w D tA α (pc + 1) lv (vi (jx_ush x y) :: r) h) : jx_Gd p l e s m args below meth c Q R cn sn hd w D tA α pc lv st h := by
  unfold jx_i2 at hn
  split at hn
  · rename_i y x r
    intro H locs ls hP hS hl
    exact lv_iushr X.1 X.2.1 hdg (v := Int32.ofInt (jx_ush x y)) (i32_of _).symm (hn H locs ls hP hS hl)
  · exact hn.elim
theorem js_lcmp (X : jx_Ctx p s m args meth c o hd w D tA α) (hdg : decode hd.2.1 pc = .ok (.lcmp, 1)) (hn : jx_l2 st fun x y r => jx_Gd p l e s m args below meth c Q R cn sn hd w D tA α (pc + 1) lv (vi (jx_cmp x y) :: r) h) : jx_Gd p l e s m args below meth c Q R cn sn hd w D tA α pc lv st h := by
  unfold jx_l2 at hn
  split at hn
  · rename_i y x r
    intro H locs ls hP hS hl
    refine W.lcmp X.1 X.2.1 hdg ?_
    have h1 := hn H locs ls hP hS hl
    have h2 : lg_cmp (Int64.ofInt x) (Int64.ofInt y) = Int32.ofInt (jx_cmp x y) := by
      unfold lg_cmp jx_cmp
      simp only [gt_iff_lt, i64_lt, w64_inj]
      split
      · rfl
      · split <;> rfl
    rw [h2]
    exact h1
  · exact hn.elim
theorem js_dup (X : jx_Ctx p s m args meth c o hd w D tA α) (hdg : decode hd.2.1 pc = .ok (.dup, 1)) {a : jx_V} {r : List jx_V} (ha : jx_is2 a = false) (hn : jx_Gd p l e s m args below meth c Q R cn sn hd w D tA α (pc + 1) lv (a :: a :: r) h) : jx_Gd p l e s m args below meth c Q R cn sn hd w D tA α pc lv (a :: r) h := by
  intro H locs ls hP hS hl
  exact lv_dup X.1 X.2.1 hdg (by rw [jx_cat, ha]; rfl) (hn H locs ls hP hS hl)
theorem js_dup_x1 (X : jx_Ctx p s m args meth c o hd w D tA α) (hdg : decode hd.2.1 pc = .ok (.dup_x1, 1)) {a b : jx_V} {r : List jx_V} (ha : jx_is2 a = false) (hb : jx_is2 b = false) (hn : jx_Gd p l e s m args below meth c Q R cn sn hd w D tA α (pc + 1) lv (a :: b :: a :: r) h) : jx_Gd p l e s m args below meth c Q R cn sn hd w D tA α pc lv (a :: b :: r) h := by
  intro H locs ls hP hS hl
  exact lv_dup_x1 X.1 X.2.1 hdg (by rw [jx_cat, ha]; rfl) (by rw [jx_cat, hb]; rfl) (hn H locs ls hP hS hl)
theorem js_dup2 (X : jx_Ctx p s m args meth c o hd w D tA α) (hdg : decode hd.2.1 pc = .ok (.dup2, 1)) {a b : jx_V} {r : List jx_V} (ha : jx_is2 a = false) (hb : jx_is2 b = false) (hn : jx_Gd p l e s m args below meth c Q R cn sn hd w D tA α (pc + 1) lv (a :: b :: a :: b :: r) h) : jx_Gd p l e s m args below meth c Q R cn sn hd w D tA α pc lv (a :: b :: r) h := by
  intro H locs ls hP hS hl
  exact lv_dup2_11 X.1 X.2.1 hdg (by rw [jx_cat, ha]; rfl) (by rw [jx_cat, hb]; rfl) (hn H locs ls hP hS hl)
theorem jx_tg_eq {pc : Nat} {off : Int} (h : 0 ≤ (pc : Int) + off) : (pc : Int) + off = ((jx_tg pc off : Nat) : Int) := by
  unfold jx_tg; omega
theorem js_goto (X : jx_Ctx p s m args meth c o hd w D tA α) {off : Int} (hdg : decode hd.2.1 pc = .ok (.goto off, 3)) (ho : 0 ≤ (pc : Int) + off) (hn : jx_Gd p l e s m args below meth c Q R cn sn hd w D tA α (jx_tg pc off) lv st h) : jx_Gd p l e s m args below meth c Q R cn sn hd w D tA α pc lv st h := by
  intro H locs ls hP hS hl
  exact lv_goto X.1 X.2.1 hdg (jx_tg_eq ho) (hn H locs ls hP hS hl)
theorem js_if (X : jx_Ctx p s m args meth c o hd w D tA α) {k : Jvm.ClassFile.Cond} {off : Int} (hdg : decode hd.2.1 pc = .ok (.ifCond k off, 3)) (ho : 0 ≤ (pc : Int) + off) (hn : jx_i1 st fun x r => jx_br (jx_cc k (w32 x) 0) (jx_Gd p l e s m args below meth c Q R cn sn hd w D tA α (jx_tg pc off) lv r h) (jx_Gd p l e s m args below meth c Q R cn sn hd w D tA α (pc + 3) lv r h)) : jx_Gd p l e s m args below meth c Q R cn sn hd w D tA α pc lv st h := by
  unfold jx_i1 at hn
  split at hn
  · rename_i x r
    intro H locs ls hP hS hl
    cases k with
    | eq => exact lv_if_eq X.1 X.2.1 hdg (jx_tg_eq ho) (fun q => hn.1 ((i32_0 _).mp q) H locs ls hP hS hl) (fun q => hn.2 (fun z => q ((i32_0 _).mpr z)) H locs ls hP hS hl)
    | ne => exact lv_if_ne X.1 X.2.1 hdg (jx_tg_eq ho) (fun q => hn.1 (fun z => q ((i32_0 _).mpr z)) H locs ls hP hS hl) (fun q => hn.2 (fun z => z ((i32_0 _).mp q)) H locs ls hP hS hl)
    | lt => exact lv_if_lt X.1 X.2.1 hdg (jx_tg_eq ho) (fun q => hn.1 ((i32_lt0 _).mp q) H locs ls hP hS hl) (fun q => hn.2 (fun z => q ((i32_lt0 _).mpr z)) H locs ls hP hS hl)
    | ge => exact lv_if_ge X.1 X.2.1 hdg (jx_tg_eq ho) (fun q => hn.1 ((i32_0le _).mp q) H locs ls hP hS hl) (fun q => hn.2 (fun z => q ((i32_0le _).mpr z)) H locs ls hP hS hl)
    | gt => exact lv_if_gt X.1 X.2.1 hdg (jx_tg_eq ho) (fun q => hn.1 ((i32_0lt _).mp q) H locs ls hP hS hl) (fun q => hn.2 (fun z => q ((i32_0lt _).mpr z)) H locs ls hP hS hl)
    | le => exact lv_if_le X.1 X.2.1 hdg (jx_tg_eq ho) (fun q => hn.1 ((i32_le0 _).mp q) H locs ls hP hS hl) (fun q => hn.2 (fun z => q ((i32_le0 _).mpr z)) H locs ls hP hS hl)
  · exact hn.elim
theorem js_icmp (X : jx_Ctx p s m args meth c o hd w D tA α) {k : Jvm.ClassFile.Cond} {off : Int} (hdg : decode hd.2.1 pc = .ok (.if_icmp k off, 3)) (ho : 0 ≤ (pc : Int) + off) (hn : jx_i2 st fun x y r => jx_br (jx_cc k (w32 x) (w32 y)) (jx_Gd p l e s m args below meth c Q R cn sn hd w D tA α (jx_tg pc off) lv r h) (jx_Gd p l e s m args below meth c Q R cn sn hd w D tA α (pc + 3) lv r h)) : jx_Gd p l e s m args below meth c Q R cn sn hd w D tA α pc lv st h := by
  unfold jx_i2 at hn
  split at hn
  · rename_i y x r
    intro H locs ls hP hS hl
    cases k with
    | eq => exact lv_icmp_eq X.1 X.2.1 hdg (jx_tg_eq ho) (fun q => hn.1 ((w32_inj).mp q) H locs ls hP hS hl) (fun q => hn.2 (fun z => q ((w32_inj).mpr z)) H locs ls hP hS hl)
    | ne => exact lv_icmp_ne X.1 X.2.1 hdg (jx_tg_eq ho) (fun q => hn.1 (fun z => q ((w32_inj).mpr z)) H locs ls hP hS hl) (fun q => hn.2 (fun z => z ((w32_inj).mp q)) H locs ls hP hS hl)
    | lt => exact lv_icmp_lt X.1 X.2.1 hdg (jx_tg_eq ho) (fun q => hn.1 ((i32_lt _ _).mp q) H locs ls hP hS hl) (fun q => hn.2 (fun z => q ((i32_lt _ _).mpr z)) H locs ls hP hS hl)
    | ge => exact lv_icmp_ge X.1 X.2.1 hdg (jx_tg_eq ho) (fun q => hn.1 ((i32_le _ _).mp q) H locs ls hP hS hl) (fun q => hn.2 (fun z => q ((i32_le _ _).mpr z)) H locs ls hP hS hl)
    | gt => exact lv_icmp_gt X.1 X.2.1 hdg (jx_tg_eq ho) (fun q => hn.1 ((i32_lt _ _).mp q) H locs ls hP hS hl) (fun q => hn.2 (fun z => q ((i32_lt _ _).mpr z)) H locs ls hP hS hl)
    | le => exact lv_icmp_le X.1 X.2.1 hdg (jx_tg_eq ho) (fun q => hn.1 ((i32_le _ _).mp q) H locs ls hP hS hl) (fun q => hn.2 (fun z => q ((i32_le _ _).mpr z)) H locs ls hP hS hl)
  · exact hn.elim
end JP
