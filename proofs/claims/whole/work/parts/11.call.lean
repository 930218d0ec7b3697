/-! calls, ends, and the JDK's few -/
theorem jx_take_spec {f : List jx_V → List jx_V → Prop} : ∀ (n : Nat) (acc st : List jx_V), jx_take n acc st f → ∃ b r, st = b ++ r ∧ b.length = n ∧ f (b.reverse ++ acc) r
  | 0, acc, st, h => ⟨[], st, rfl, rfl, h⟩
  | n + 1, acc, [], h => h.elim
  | n + 1, acc, v :: t, h => by
    obtain ⟨b, r, h1, h2, h3⟩ := jx_take_spec n (v :: acc) t h
    refine ⟨v :: b, r, by rw [h1]; rfl, by simp [h2], ?_⟩
    rw [List.reverse_cons, List.append_assoc]
    exact h3
theorem jx_w_cat (α : Int → Nat) (r : List jx_V) : ((r.map (jx_cv α)).map fun v => v.category).sum = jx_w r := by
  unfold jx_w
  rw [List.map_map]
  congr 1
  apply List.map_congr_left
  intro v _
  exact jx_cat v
theorem jx_blind {w : jx_Wd} {D : va_G} {tA : Nat → ClassId} {α : Int → Nat} {as : List jx_V} {h : jx_H} : FrameBlind (jx_Pc w D tA α as h) := by
  intro a U g mk q
  obtain ⟨q0, q1, q2, q3, q4⟩ := q
  exact ⟨q0, q1, va_K.moved (u := U) (U := U.calling g mk a) (Vm.Alike.refl U.vm) q2, q3, q4.blind⟩
section JC
variable {p : Program} {l : Launch} {e : Env} {s : State} {m : MethodId} {args : Array Value} {below : List Frame} {meth : Method} {c : Code} {Q : State → Prop}
variable {o d cn sn : Nat} {R : Room} {hd : jx_Hd} {w : jx_Wd} {D : va_G} {tA : Nat → ClassId} {α : Int → Nat} {pc : Nat} {lv : jx_L} {st : List jx_V} {h : jx_H}
theorem jx_callG {R : Room} {H : Heap} {locs : List Loc} {cells slots : Nat} {ls : Array Slot} {st0 rest : List Value} {a : Array Value} {rt : Nat} {K : Int → jx_H → Prop} {A0 : Nat → Prop} {H0 : Heap} (hr : va_Run p l e R s m args below meth c H locs cells slots 0 0 (F0 m pc ls st0) rest (jx_Qc w D tA α rt K a) (jx_A w α)) (hS : va_S A0 H0 H locs) (hA : ∀ q, jx_A w α q → A0 q)
    (kk : ∀ (z : Int) (h' : jx_H) (H1 : Heap) (locs1 : List Loc), K z h' → va_P D vwCl (jx_wl tA α w h') H1 → H.size ≤ H1.size → (∀ q : Nat, q < H.size → ¬ jx_A w α q → H1[q]? = H[q]?) → va_S A0 H0 H1 locs1 → W p l e R s m args below meth c H1 locs1 cells slots Q (F0 m (pc + 3) ls ((jx_ro α rt z).toList ++ rest))) : W p l e R s m args below meth c H locs cells slots Q (F0 m pc ls st0) := by
  intro T hT X
  obtain ⟨v, st₀, t, T', L, h0, X', hL, e1, e2, ⟨⟨z, h', hv, hp, hb⟩, hz, hk⟩, st⟩ := hr T hT X
  cases hv
  rw [h0] at hz hk
  obtain ⟨t2, a1, b1⟩ := kk z h' T'.heap (locs ++ L) hp (by rw [e1]; exact hb) (by rw [e1]; exact hz) (fun q h1 h2 => by rw [e1]; exact hk q h1 h2)
    ⟨Nat.le_trans hS.1 (by rw [e1]; exact hz), fun q h1 h2 => by rw [e1, hk q (Nat.lt_of_lt_of_le h1 hS.1) (fun z => h2 (hA q z))]; exact hS.2.1 q h1 h2, fun q hq => by
      rcases List.mem_append.mp hq with h | h
      · exact hS.2.2 q h
      · exact hA _ (hL q h)⟩ T' rfl X'
  exact ⟨t2, st t2 a1, b1⟩
theorem jx_goodw {hd' : jx_Hd} (hok : jx_hok hd') : GoodIn jx_T (jx_ws hd') := by
  intro x hx
  rcases List.mem_cons.mp hx with rfl | hx
  · exact ⟨hok.1, jx_T_good hok.1⟩
  · exact ⟨hx, jx_T_good hx⟩
theorem jx_push_eq (hrt : jx_rok hd.2.2.2.1 hd.2.2.2.2.2.1) (z : Int) (r : List jx_V) : (jx_ro α hd.2.2.2.2.2.1 z).toList ++ r.map (jx_cv α) = (jx_push hd.2.2.2.2.2.1 z r).map (jx_cv α) := by
  generalize hd.2.2.2.2.2.1 = k at hrt ⊢
  match k, hrt with
  | 0, _ => rfl
  | 1, _ => rfl
  | 2, _ => rfl
  | 3, _ => rfl
  | 4, _ => rfl
  | 5, _ => rfl
  | 6, _ => rfl
  | k + 7, q => exact q.elim
theorem js_vcall (X : jx_Ctx p s m args meth c o hd w D tA α) (hRd : (d ≤ R.frames ∧ 100 * d ≤ R.locals) ∧ cn ≤ R.cells ∧ sn ≤ R.slots) {n : Nat} {hd' : jx_Hd} (hdg : decode hd.2.1 pc = .ok (.invokevirtual n, 3)) (hml2 : jx_ML.any (fun r => decide (r.1 = o ∧ r.2.1 = n ∧ r.2.2.1 = hd'.1)) = true)
    (hn : jx_take hd'.2.2.2.2.1 [] st fun as r => jx_w r ≤ 8 ∧ jx_rcv w hd'.2.2.2.2.2.2.1 as ∧ jx_C w d hd' as h fun z h' => jx_Gd p l e s m args below meth c Q R cn sn hd w D tA α (pc + 3) lv (jx_push hd'.2.2.2.2.2.1 z r) h') : jx_Gd p l e s m args below meth c Q R cn sn hd w D tA α pc lv st h := by
  have hlink := X.2.2.2.2.2.1 _ (jx_ml_mem hml2)
  obtain ⟨hx, hb, hr, hml, hown, hts, hlk, hK, hap, hE, hW⟩ := X
  obtain ⟨bs, r, rfl, hlen, hw8, hrcv, d', hd1, K0, ⟨hok, hM⟩, hK0⟩ := jx_take_spec _ _ _ hn
  rw [List.append_nil] at hrcv hM
  have hMet := hM l D tA α
  intro H locs ls hP hS hl
  obtain ⟨hcode, hini, hkind, hnotMH, hpl, hrt, hmL⟩ := id hok
  -- the receiver
  cases hbr : bs.reverse with
  | nil => rw [hbr] at hrcv; exact hrcv.elim
  | cons v as =>
    rw [hbr] at hrcv hMet
    unfold jx_rcv at hrcv
    split at hrcv
    · rename_i a tl heq
      cases heq
      rcases hkind with ⟨h99, -, -⟩ | ⟨hlt, hins, hsel, hcn, hpar⟩
      · exfalso
        rw [h99] at hrcv
        have hrcv : jx_ob w a 99 := hrcv
        have := (jx_obj hW hrcv tA α).2
        obtain ⟨p0, r0, -, hc0, -⟩ := this
        simp [vwCl] at hc0
      · have hstart : 0 ≤ a ∧ ∀ (H : Heap) (locs : List Loc), va_P D vwCl (jx_wl tA α w h) H → va_S (jx_A w α) s.heap H locs → ∃ cell : Cell, H[α a]? = some cell ∧ cell.vm.isStatics = false ∧ s.vm.findClass hd'.1.cls = some cell.cls := by
          rcases hlt with hlt | h16
          · have hrcv : jx_ob w a hd'.2.2.2.2.2.2.1 := by
              split at hrcv
              · rename_i h9
                omega
              · exact hrcv
            obtain ⟨h0, q, r1, hq, hc1, hent, hwl⟩ := jx_obj hW hrcv tA α
            have hcls : r1.1 = hd'.1.cls := by
              rw [← hcn]
              generalize hd'.2.2.2.2.2.2.1 = sc at hc1 hlt
              rcases (show sc = 0 ∨ sc = 1 ∨ sc = 2 ∨ sc = 3 ∨ sc = 4 ∨ sc = 5 ∨ sc = 6 ∨ sc = 7 ∨ sc = 8 ∨ sc = 9 ∨ sc = 10 ∨ sc = 11 ∨ sc = 12 by omega) with z | z | z | z | z | z | z | z | z | z | z | z | z <;> subst z <;> cases hc1 <;> rfl
            refine ⟨h0, fun H locs hP hS => ?_⟩
            have hrc := va_recv hK hP hc1 (by rw [hwl h, hent h] : (jx_wl tA α w h)[q]? = some (α a, .inr (hd'.2.2.2.2.2.2.1, _)))
            rw [hcls] at hrc
            exact hrc
          · rw [h16] at hrcv hcn
            have hlit : jx_lit a := hrcv
            unfold jx_lit at hlit
            refine ⟨by omega, fun H locs hP hS => ?_⟩
            obtain ⟨-, h2, -⟩ := hE
            have hrc := vk_recv (i := (a - 2000).toNat) h2 (by omega) hS
            rw [← hcn]
            rw [show (2000 : Int) + (((a - 2000).toNat : Nat) : Int) = a by omega] at hrc
            exact hrc
        obtain ⟨h0, hrc⟩ := hstart
        have hlen2 : as.length + 1 = hd'.2.2.2.2.1 := by
          have h9 := congrArg List.length hbr
          simp at h9
          omega
        have hdesc : (parseMethodDescriptor hd'.1.desc).map (fun d => d.parameters.length) = some as.length := by
          revert hpar
          cases parseMethodDescriptor hd'.1.desc with
          | none => simp
          | some sg => simp; omega
        have hrun := va_runV (R := R) (b := α a) (As := as.map (jx_cv α)) (rest := r.map (jx_cv α)) (g := F0 m pc ls ((bs ++ r).map (jx_cv α))) (H := H) (locs := locs) (cells := cn) (slots := sn) (below := below) (meth := meth) (e := e) (C := hd'.1.cls) (n := as.length) ⟨hx, hb, hml, hown, hts⟩ hMet
          ⟨callB_of as.length hts (jx_goodw hok) rfl rfl rfl (hts _ hini) hlink ⟨hnotMH.1, hnotMH.2, hdesc⟩ ⟨by show d' + 1 ≤ R.frames; omega, by show 8 + (hd'.2.2.1 + 11) + 100 * d' ≤ R.locals; omega⟩, hts _ hins, hts _ hsel⟩
          ⟨jx_blind, hrc H locs hP hS, fun U hU hWm => ⟨by rw [List.map_cons, show jx_cv α (.inr (.inr a)) = .ref (α a) from jx_ref α h0], by rw [hU]; exact hP, va_K.moved hWm.alike hK, hap, hE.call hS hWm hU⟩⟩
          rfl (by simp) hl.1 (by
            show (bs ++ r).map (jx_cv α) = _
            rw [List.map_append, ← List.reverse_reverse bs, hbr, List.map_reverse, List.map_cons, List.reverse_cons, show jx_cv α (.inr (.inr a)) = .ref (α a) from jx_ref α h0, List.append_assoc, List.singleton_append]) (lv_room (by rw [jx_w_cat]; exact hw8)) hdg ⟨by omega, by omega⟩
        refine jx_callG hrun hS (fun q hq => hq) (fun z h' H1 locs1 hk hP1 _ _ hS1 => ?_)
        rw [jx_push_eq hrt]
        exact hK0 z h' hk H1 locs1 ls hP1 hS1 hl
    · exact hrcv.elim
theorem js_scall (X : jx_Ctx p s m args meth c o hd w D tA α) (hRd : (d ≤ R.frames ∧ 100 * d ≤ R.locals) ∧ cn ≤ R.cells ∧ sn ≤ R.slots) {n : Nat} {hd' : jx_Hd} (hdg : decode hd.2.1 pc = .ok (.invokestatic n, 3)) (hml2 : (jx_ML.any (fun r => decide (r.1 = o ∧ r.2.1 = n ∧ r.2.2.1 = hd'.1)) || jx_NL.any (fun r => decide (r.1 = o ∧ r.2.1 = n ∧ r.2.2 = hd'.1))) = true)
    (hn : jx_take hd'.2.2.2.2.1 [] st fun as r => jx_w r ≤ 8 ∧ hd'.2.2.2.2.2.2.1 = 99 ∧ jx_C w d hd' as h fun z h' => jx_Gd p l e s m args below meth c Q R cn sn hd w D tA α (pc + 3) lv (jx_push hd'.2.2.2.2.2.1 z r) h') : jx_Gd p l e s m args below meth c Q R cn sn hd w D tA α pc lv st h := by
  have hts0 := X.2.2.2.2.2.1
  obtain ⟨hx, hb, hr, hml, hown, hts, hlk, hK, hap, hE, hW⟩ := X
  obtain ⟨bs, r, rfl, hlen, hw8, h99, d', hd1, K0, ⟨hok, hM⟩, hK0⟩ := jx_take_spec _ _ _ hn
  rw [List.append_nil] at hM
  have hMet := hM l D tA α
  intro H locs ls hP hS hl
  obtain ⟨hcode, hini, hkind, hnotMH, hpl, hrt, hmL⟩ := id hok
  rcases hkind with ⟨-, hst, hpar⟩ | ⟨hlt, -⟩
  · have hlen2 : bs.reverse.length = hd'.2.2.2.2.1 := by simp [hlen]
    have hpre : PreS s H (jx_Pc w D tA α bs.reverse h) (bs.reverse.map (jx_cv α)) := ⟨jx_blind, fun U hU hWm => ⟨rfl, by rw [hU]; exact hP, va_K.moved hWm.alike hK, hap, hE.call hS hWm hU⟩⟩
    have hstk : (F0 m pc ls ((bs ++ r).map (jx_cv α))).stack = (bs.reverse.map (jx_cv α)).reverse ++ r.map (jx_cv α) := by
      show (bs ++ r).map (jx_cv α) = _
      rw [List.map_append, List.map_reverse, List.reverse_reverse]
    have hfin : ∀ (hrun : va_Run p l e R s m args below meth c H locs cn sn 0 0 (F0 m pc ls ((bs ++ r).map (jx_cv α))) (r.map (jx_cv α)) (jx_Qc w D tA α hd'.2.2.2.2.2.1 K0 (bs.reverse.map (jx_cv α)).toArray) (jx_A w α)), W p l e R s m args below meth c H locs cn sn Q (F0 m pc ls ((bs ++ r).map (jx_cv α))) := by
      intro hrun
      refine jx_callG hrun hS (fun q hq => hq) (fun z h' H1 locs1 hk hP1 _ _ hS1 => ?_)
      rw [jx_push_eq hrt]
      exact hK0 z h' hk H1 locs1 ls hP1 hS1 hl
    rcases Bool.or_eq_true _ _ ▸ hml2 with hm1 | hm1
    · have hlink := hts0 _ (jx_ml_mem hm1)
      exact hfin (va_runS (R := R) (g := F0 m pc ls ((bs ++ r).map (jx_cv α))) (n := bs.reverse.length) ⟨hx, hb, hml, hown, hts⟩ hMet
        ⟨callB_of bs.reverse.length hts (jx_goodw hok) rfl rfl rfl (hts _ hini) hlink ⟨hnotMH.1, hnotMH.2, by rw [hpar, hlen2]⟩ ⟨by show d' + 1 ≤ R.frames; omega, by show 8 + (hd'.2.2.1 + 11) + 100 * d' ≤ R.locals; omega⟩, hts _ hst⟩
        hpre rfl (by simp) hl.1 hstk (lv_room (by rw [jx_w_cat]; exact hw8)) hdg ⟨by omega, by omega⟩)
    · obtain ⟨q, hq, h1⟩ := List.any_eq_true.mp hm1
      obtain ⟨e1, e2, e3⟩ := of_decide_eq_true h1
      have hnest : va_Nw (.methodLinkNest (jx_Rn o) n hd'.1 RX11) s := by
        have hall := hE
        subst e1; subst e2
        rw [← e3]
        simp only [jx_NL, List.mem_cons, List.not_mem_nil, or_false] at hq
        rcases hq with rfl | rfl
        · exact hE.1 _ (by unfold jx_nests; exact List.mem_cons_self)
        · exact hE.1 _ (by unfold jx_nests; exact List.mem_cons_of_mem _ List.mem_cons_self)
      exact hfin (va_runSN (R := R) (g := F0 m pc ls ((bs ++ r).map (jx_cv α))) (n := bs.reverse.length) ⟨hx, hb, hml, hown, hts⟩ hMet
        ⟨va_cnB bs.reverse.length hts (jx_goodw hok) rfl rfl rfl hnest (hts _ hini) ⟨hnotMH.1, hnotMH.2, by rw [hpar, hlen2]⟩ ⟨by show d' + 1 ≤ R.frames; omega, by show 8 + (hd'.2.2.1 + 11) + 100 * d' ≤ R.locals; omega⟩, hts _ hst, trivial⟩
        hpre rfl (by simp) hl.1 hstk (lv_room (by rw [jx_w_cat]; exact hw8)) hdg ⟨by omega, by omega⟩)
  · exfalso; omega
end JC
