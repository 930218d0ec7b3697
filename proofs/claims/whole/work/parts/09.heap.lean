/-! fields, arrays -/
theorem jx_ent_ne {tA : Nat → ClassId} {α : Int → Nat} {w : jx_Wd} {h h' : jx_H} {b : Int} (hb : ∀ i, h' b i = h b i) : jx_ent tA α w h' b = jx_ent tA α w h b := by
  unfold jx_ent
  simp only [jx_fvl, jx_rv, hb]
theorem hu_ne {h : jx_H} {k i v b : Int} (hb : b ≠ k) (j : Int) : hu h k i v b j = h b j := by
  unfold hu; rw [if_neg (fun q => hb q.1)]
theorem hu_ni {h : jx_H} {k i v b j : Int} (hj : j ≠ i) : hu h k i v b j = h b j := by
  unfold hu; rw [if_neg (fun q => hj q.2)]
theorem hu_eq {h : jx_H} {k i v : Int} : hu h k i v k i = v := by
  unfold hu; rw [if_pos ⟨rfl, rfl⟩]
theorem jx_fset {n k : Nat} {f f' : Nat → Value} {v : Value} (hf : ∀ j, j ≠ k → f' j = f j) (hv : f' k = v) : ((List.range n).map f).set k v = (List.range n).map f' := by
  apply List.ext_getElem?
  intro i
  by_cases hi : i < n
  · rw [List.getElem?_map, List.getElem?_range hi]
    by_cases hk : k = i
    · subst hk
      rw [List.getElem?_set_self (by simpa using hi), ← hv]
      rfl
    · rw [List.getElem?_set_ne hk, List.getElem?_map, List.getElem?_range hi]
      show some (f i) = some (f' i)
      rw [hf i (fun q => hk q.symm)]
  · rw [List.getElem?_eq_none (by simp; omega), List.getElem?_eq_none (by simp; omega)]
section JH
variable {p : Program} {l : Launch} {e : Env} {s : State} {m : MethodId} {args : Array Value} {below : List Frame} {meth : Method} {c : Code} {Q : State → Prop}
variable {o d cn sn : Nat} {R : Room} {hd : jx_Hd} {w : jx_Wd} {D : va_G} {tA : Nat → ClassId} {α : Int → Nat} {pc : Nat} {lv : jx_L} {st : List jx_V} {h : jx_H}
theorem jx_obj (hW : jx_Wok w) {a : Int} {ci : Nat} (ho : jx_ob w a ci) (tA : Nat → ClassId) (α : Int → Nat) : 0 ≤ a ∧ ∃ (p : Nat) (r : vw_C), w.1[p]? = some a ∧ vwCl[ci]? = some r ∧ (∀ h : jx_H, jx_ent tA α w h a = .inr (ci, (List.range r.2.2).map fun j => jx_fvl α w h a (jx_ft ci j) j)) ∧ ∀ h : jx_H, (jx_wl tA α w h)[p]? = some (α a, jx_ent tA α w h a) := by
  obtain ⟨hn, hm, hc, -⟩ := hW
  obtain ⟨h1, h2⟩ := ho
  obtain ⟨h3, h4⟩ := hm a (by omega)
  obtain ⟨r, h5, h6⟩ := hc a h1
  rw [h2] at h5
  obtain ⟨p, hp⟩ := List.getElem?_of_mem h3
  refine ⟨h4, p, r, hp, h5, fun h => ?_, fun h => ?_⟩
  · have hk : w.2.1 a = (0, ci, r.2.2) := Prod.ext h1 (Prod.ext h2 h6)
    unfold jx_ent
    rw [hk]
    rfl
  · unfold jx_wl; rw [List.getElem?_map, hp]; rfl
theorem jx_arr (hW : jx_Wok w) {a : Int} (ha : (w.2.1 a).1 < 4) (tA : Nat → ClassId) (α : Int → Nat) : 0 ≤ a ∧ ∃ (p : Nat), w.1[p]? = some a ∧ ∀ h : jx_H, (jx_wl tA α w h)[p]? = some (α a, jx_ent tA α w h a) := by
  obtain ⟨hn, hm, -⟩ := hW
  obtain ⟨h3, h4⟩ := hm a ha
  obtain ⟨p, hp⟩ := List.getElem?_of_mem h3
  exact ⟨h4, p, hp, fun h => by unfold jx_wl; rw [List.getElem?_map, hp]; rfl⟩
theorem jx_ent1 {a : Int} {t : Nat} (h1 : (w.2.1 a).1 = 1) (h2 : (w.2.1 a).2.1 = t) (h : jx_H) : jx_ent tA α w h a = .inl (tA t, (w.2.1 a).2.2, .inl fun j => Int32.ofInt (h a (j : Int))) := by
  have hk : w.2.1 a = (1, t, (w.2.1 a).2.2) := Prod.ext h1 (Prod.ext h2 rfl)
  generalize (w.2.1 a).2.2 = n at hk ⊢
  unfold jx_ent
  rw [hk]
  rfl
theorem jx_ent2 {a : Int} {t : Nat} (h1 : (w.2.1 a).1 = 2) (h2 : (w.2.1 a).2.1 = t) (h : jx_H) : jx_ent tA α w h a = .inl (tA t, (w.2.1 a).2.2, .inr (.inl fun j => Int64.ofInt (h a (j : Int)))) := by
  have hk : w.2.1 a = (2, t, (w.2.1 a).2.2) := Prod.ext h1 (Prod.ext h2 rfl)
  generalize (w.2.1 a).2.2 = n at hk ⊢
  unfold jx_ent
  rw [hk]
  rfl
theorem jx_ent3 {a : Int} {t : Nat} (h1 : (w.2.1 a).1 = 3) (h2 : (w.2.1 a).2.1 = t) (h : jx_H) : jx_ent tA α w h a = .inl (tA t, (w.2.1 a).2.2, .inr (.inr (.inr (.inr fun j => jx_opt α (jx_rv w h a (j : Int)))))) := by
  have hk : w.2.1 a = (3, t, (w.2.1 a).2.2) := Prod.ext h1 (Prod.ext h2 rfl)
  generalize (w.2.1 a).2.2 = n at hk ⊢
  unfold jx_ent
  rw [hk]
  rfl
theorem jx_ix (i : Int) (h : 0 ≤ w32 i) : ((Int32.ofInt i).toNatClampNeg : Int) = w32 i := by
  show (((Int32.ofInt i).toInt.toNat : Nat) : Int) = _
  rw [w32_eq]; omega
theorem jx_vin {i : Int} {n : Nat} (h0 : 0 ≤ w32 i) (h1 : w32 i < (n : Int)) : vp_in (Int32.ofInt i) n := by
  rw [vp_in_iff, w32_eq]; exact ⟨h0, h1⟩
theorem js_getfield (X : jx_Ctx p s m args meth c o hd w D tA α) {n ci k t : Nat} {z : Int} (hdg : decode hd.2.1 pc = .ok (.getfield n, 3)) (hf : ∃ r, vwCl[ci]? = some r ∧ k < r.2.2 ∧ Cond.fieldLink (jx_Rn o) n (r.2.1 k).1 (r.2.1 k).2.1 (r.2.1 k).2.2.1 ∈ jx_T) (hz : z = (k : Int)) (ht : t = jx_tag (jx_ft ci k))
    (hn : jx_a1 st fun a r => jx_ob w a ci ∧ jx_Gd p l e s m args below meth c Q R cn sn hd w D tA α (pc + 3) lv (jx_fval w h a z t :: r) h) : jx_Gd p l e s m args below meth c Q R cn sn hd w D tA α pc lv st h := by
  obtain ⟨hx, hb, hr, hml, hown, hts, hlk, hK, hap, hE, hW⟩ := X
  unfold jx_a1 at hn
  split at hn
  · rename_i a r
    obtain ⟨ho, hn⟩ := hn
    obtain ⟨r0, hc, hkk, hlink⟩ := hf
    obtain ⟨h0, q, r1, hq, hc1, hent, hwl⟩ := jx_obj hW ho tA α
    cases hc.symm.trans hc1
    obtain ⟨hin, hty, hnm⟩ := jx_cls ci r0 hc
    intro H locs ls hP hS hl
    have h1 := hn H locs ls hP hS hl
    rw [List.map_cons, show jx_cv α (.inr (.inr a)) = .ref (α a) from jx_ref α h0]
    refine va_get (cl := vwCl) (C := r0.1) (T := r0.2.1) (N := r0.2.2) (v := jx_cv α (jx_fval w h a z t)) hx hb hts hin hown hK hP q (by rw [hwl h, hent h]) hc k hkk (hts _ hlink) (fun _ h9 => h9) ?_ hdg h1
    rw [List.getElem?_map, List.getElem?_range hkk]
    show some (jx_fvl α w h a (jx_ft ci k) k) = some (jx_cv α (jx_fval w h a z t))
    subst hz
    unfold jx_fvl jx_fval
    rw [← ht]
    split
    · rfl
    · rfl
    · rename_i q1 q2
      simp only []
      first
        | rfl
        | (split
           · exact absurd rfl q1
           · exact absurd rfl q2
           · rfl)
  · exact hn.elim
theorem js_putfield (X : jx_Ctx p s m args meth c o hd w D tA α) {n ci k t : Nat} {z : Int} (hdg : decode hd.2.1 pc = .ok (.putfield n, 3)) (hf : ∃ r, vwCl[ci]? = some r ∧ k < r.2.2 ∧ Cond.fieldLink (jx_Rn o) n (r.2.1 k).1 (r.2.1 k).2.1 (r.2.1 k).2.2.1 ∈ jx_T) (hfin : ∀ r, vwCl[ci]? = some r → (r.2.1 k).2.2.2 = false) (hz : z = (k : Int)) (ht : t = jx_tag (jx_ft ci k))
    (hn : jx_putf w ci t z st fun a x r => jx_Gd p l e s m args below meth c Q R cn sn hd w D tA α (pc + 3) lv r (hu h a z x)) : jx_Gd p l e s m args below meth c Q R cn sn hd w D tA α pc lv st h := by
  obtain ⟨hx, hb, hr, hml, hown, hts, hlk, hK, hap, hE, hW⟩ := X
  -- a value v of that field, and the new heap
  have key : ∀ (a x : Int) (v : Value) (r : List jx_V), jx_ob w a ci → narrow (jx_ft ci k) v = v → fits (jx_ft ci k) v = true → jx_fvl α w (hu h a z x) a (jx_ft ci k) k = v → jx_Gd p l e s m args below meth c Q R cn sn hd w D tA α (pc + 3) lv r (hu h a z x) → ∀ (H : Heap) (locs : List Loc) (ls : Array Slot), va_P D vwCl (jx_wl tA α w h) H → va_S (jx_A w α) s.heap H locs → lv_has ls hd.2.2.1 (jx_cl α lv) → W p l e R s m args below meth c H locs cn sn Q (F0 m pc ls (v :: .ref (α a) :: r.map (jx_cv α))) := by
    intro a x v r ho hnar hfit hval hn H locs ls hP hS hl
    obtain ⟨r0, hc, hkk, hlink⟩ := hf
    obtain ⟨h0, q, r1, hq, hc1, hent, hwl⟩ := jx_obj hW ho tA α
    cases hc.symm.trans hc1
    obtain ⟨hin, hty, hnm⟩ := jx_cls ci r0 hc
    refine va_put (cl := vwCl) (C := r0.1) (T := r0.2.1) (N := r0.2.2) hx hb hts hin (jx_ft ci) hty hnm hown hK hP (jx_D h hW.1 hap) hS q (by rw [hwl h, hent h]) hc k hkk (hts _ hlink) (fun _ h9 => h9) (hfin r0 hc) (hty k hkk) hnar hfit (by simpa using hkk) hdg (fun H1 locs1 hP1 _ hS1 => ?_)
    refine hn H1 locs1 ls ?_ hS1 hl
    have e1 : ((List.range r0.2.2).map fun j => jx_fvl α w h a (jx_ft ci j) j).set k v = (List.range r0.2.2).map fun j => jx_fvl α w (hu h a z x) a (jx_ft ci j) j := by
      refine jx_fset (fun j hj => ?_) hval
      unfold jx_fvl jx_rv
      rw [hu_ni (show (j : Int) ≠ z by omega)]
    rw [e1, jx_wset (h' := hu h a z x) hW.1 hq (hent _) (fun b hb => jx_ent_ne (hu_ne hb))] at hP1
    exact hP1
  have cast : hu h = hu h := rfl
  unfold jx_putf at hn
  split at hn
  · split at hn
    · rename_i x a r
      obtain ⟨ho, hn⟩ := hn
      have h0 := (jx_obj hW ho tA α).1
      have hty : jx_ft ci k = .int := by
        revert ht; cases jx_ft ci k <;> simp [jx_tag]
      intro H locs ls hP hS hl
      rw [List.map_cons, List.map_cons, show jx_cv α (.inr (.inr a)) = .ref (α a) from jx_ref α h0]
      refine key a x (.int (Int32.ofInt x)) r ho (by rw [hty]; rfl) (by rw [hty]; rfl) ?_ hn H locs ls hP hS hl
      rw [hty]; subst hz
      show Value.int (Int32.ofInt (hu h a k x a k)) = _
      rw [hu_eq]
    · exact hn.elim
  · split at hn
    · rename_i x a r
      obtain ⟨ho, hx01, hn⟩ := hn
      have h0 := (jx_obj hW ho tA α).1
      have hty : jx_ft ci k = .boolean := by
        revert ht; cases jx_ft ci k <;> simp [jx_tag]
      intro H locs ls hP hS hl
      rw [List.map_cons, List.map_cons, show jx_cv α (.inr (.inr a)) = .ref (α a) from jx_ref α h0]
      refine key a x (.int (Int32.ofInt x)) r ho (by rw [hty]; rcases hx01 with rfl | rfl <;> rfl) (by rw [hty]; rcases hx01 with rfl | rfl <;> rfl) ?_ hn H locs ls hP hS hl
      rw [hty]; subst hz
      show Value.int (Int32.ofInt (hu h a k x a k)) = _
      rw [hu_eq]
    · exact hn.elim
  · split at hn
    · rename_i x a r
      obtain ⟨ho, hn⟩ := hn
      have h0 := (jx_obj hW ho tA α).1
      have hty : jx_ft ci k = .long := by
        revert ht; cases jx_ft ci k <;> simp [jx_tag]
      intro H locs ls hP hS hl
      rw [List.map_cons, List.map_cons, show jx_cv α (.inr (.inr a)) = .ref (α a) from jx_ref α h0]
      refine key a x (.long (Int64.ofInt x)) r ho (by rw [hty]; rfl) (by rw [hty]; rfl) ?_ hn H locs ls hP hS hl
      rw [hty]; subst hz
      show Value.long (Int64.ofInt (hu h a k x a k)) = _
      rw [hu_eq]
    · exact hn.elim
  · split at hn
    · rename_i x a r
      obtain ⟨ho, hdyn, hn⟩ := hn
      have h0 := (jx_obj hW ho tA α).1
      intro H locs ls hP hS hl
      rw [List.map_cons, List.map_cons, show jx_cv α (.inr (.inr a)) = .ref (α a) from jx_ref α h0]
      have hv : jx_fvl α w (hu h a z x) a (jx_ft ci k) k = va_rf (jx_opt α x) := by
        unfold jx_fvl jx_rv
        rw [← ht]
        subst hz
        show va_rf (jx_opt α (if w.2.2 a k = -2 then _ else _)) = _
        rw [if_pos hdyn, hu_eq]
      refine key a x (va_rf (jx_opt α x)) r ho ?_ ?_ hv hn H locs ls hP hS hl
      · revert ht
        cases jx_ft ci k <;> simp [jx_tag] <;> cases jx_opt α x <;> rfl
      · revert ht
        cases jx_ft ci k <;> simp [jx_tag] <;> cases jx_opt α x <;> rfl
    · exact hn.elim
  · exact hn.elim
end JH
