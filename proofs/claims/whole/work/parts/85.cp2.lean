/-! the class's reader: its states -/
def PFr (h h' : jx_H) (t u : Int) : Prop := (∀ a, a ≠ 6 → a ≠ t → a ≠ t + 20 → h' a = h a) ∧ (∀ f, f ≠ 5 → f ≠ 6 → f ≠ 9 → f ≠ 10 → f ≠ 11 → h' 6 f = h 6 f) ∧ (∀ f, f ≠ 3 → h' t f = h t f) ∧ ∀ x, x < u → h' (t + 20) x = h (t + 20) x
theorem PFr_rf (h : jx_H) (t u : Int) : PFr h h t u := ⟨fun _ _ _ _ => rfl, fun _ _ _ _ _ _ => rfl, fun _ _ => rfl, fun _ _ => rfl⟩
theorem PFr_tr {a b c : jx_H} {t u v : Int} (p : PFr a b t u) (q : PFr b c t v) (huv : u ≤ v) : PFr a c t u := ⟨fun x x1 x2 x3 => by rw [q.1 x x1 x2 x3, p.1 x x1 x2 x3], fun f f1 f2 f3 f4 f5 => by rw [q.2.1 f f1 f2 f3 f4 f5, p.2.1 f f1 f2 f3 f4 f5], fun f f1 => by rw [q.2.2.1 f f1, p.2.2.1 f f1], fun x hx => by rw [q.2.2.2 x (by omega), p.2.2.2 x hx]⟩
def PS (h : jx_H) (T ts : List Tok) (s o t u : Int) : Prop := PT h T ∧ PAt h T ts ∧ h 6 5 = 0 ∧ h 6 11 = o ∧ h 6 12 = s ∧ h 6 13 = t ∧ h t 3 = u ∧ (900 ≤ t ∧ t ≤ 910) ∧ 0 ≤ u ∧ u ≤ 300
def PB (h : jx_H) (T : List Tok) (t : Int) (e : Int × Int) : Prop := PT h T ∧ h 6 5 = e.1 ∧ h 6 6 = e.2 ∧ (1 ≤ e.1 ∧ e.1 ≤ 5) ∧ h 6 9 = (T.length : Int) - 1 ∧ h 6 10 = 0 ∧ h 6 13 = t ∧ (900 ≤ t ∧ t ≤ 910) ∧ 0 ≤ h t 3 ∧ h t 3 ≤ 300
theorem PS_te {h : jx_H} {T ts : List Tok} {s o t u : Int} (p : PS h T ts s o t u) : TE ts ∧ (∀ q ∈ ts, 0 ≤ q.2.1) ∧ (1 ≤ ts.length ∧ ts.length ≤ 301) ∧ (0 ≤ tK ts ∧ tK ts ≤ 255) ∧ (0 ≤ tN ts ∧ tN ts ≤ 10000) ∧ (0 ≤ tB ts ∧ tB ts ≤ 300) := by
  obtain ⟨⟨h1, h2, h3, h4, h5⟩, ⟨i, i1, rfl, i3, i4⟩, -⟩ := p
  have e := tK_drop (T := T) (i := i)
  have hm : T.getD i (0, 0, 0) ∈ T := by
    rw [List.getD_eq_getElem?_getD, List.getElem?_eq_getElem i1]
    exact List.getElem_mem i1
  have q := h4 _ hm
  refine ⟨TE_drop h1 i1, fun x hx => (h4 x (List.mem_of_mem_drop hx)).1, ?_, ?_, ?_, ?_⟩
  · rw [List.length_drop]; omega
  · rw [e.1]; omega
  · rw [e.2.1]; omega
  · rw [e.2.2]; omega
theorem PT_keep {h h' : jx_H} {T : List Tok} (e8 : h' 6 8 = h 6 8) (e1 : h' 61 = h 61) (e2 : h' 62 = h 62) (e3 : h' 63 = h 63) (p : PT h T) : PT h' T := by
  unfold PT at *
  rw [e8, e1, e2, e3]
  exact p
theorem PS_idx {h : jx_H} {T ts : List Tok} {s o t u : Int} (p : PS h T ts s o t u) : (0 ≤ h 6 9 ∧ h 6 9 ≤ 300) ∧ (0 ≤ h 6 8 ∧ h 6 8 ≤ 300) ∧ h 6 10 = tK ts ∧ h 62 (h 6 9) = tB ts ∧ (tK ts = 130 → h 63 (h 6 9) = tN ts) ∧ (h 6 9 < h 6 8 ↔ ¬ tK ts = 0) := by
  obtain ⟨⟨h1, h2, h3, h4, h5⟩, ⟨i, i1, rfl, i3, i4⟩, -⟩ := p
  have e := tK_drop (T := T) (i := i)
  have q := h5 i i1
  have te := tK_end h1 i1
  refine ⟨by omega, by omega, i4.1, by rw [i3, q.2.1, e.2.2], fun hk => by rw [i3, q.2.2 (by rw [← e.1]; exact hk), e.2.1], by omega⟩
theorem PS_step {h : jx_H} {T ts : List Tok} {s o t u : Int} (p : PS h T ts s o t u) (hk : ¬ tK ts = 0) : PS (sStep h) T (tStep ts) s o t u ∧ PFr h (sStep h) t u := by
  have ix := PS_idx p
  obtain ⟨h1, ⟨i, i1, rfl, i3, i4⟩, h5, h11, h12, h13, h14, h15, h16⟩ := p
  have te := tK_end h1.1 i1
  have hlt : h 6 9 < h 6 8 := ix.2.2.2.2.2.mpr hk
  unfold sStep
  rw [if_pos hlt]
  have hi : i + 1 < T.length := by omega
  have ts1 := tStep_drop hi
  have q := h1.2.2.2.2 (i + 1) hi
  refine ⟨⟨PT_keep (by rw [hu_ni (by decide), hu_ni (by decide)]) (by rw [hu_row (by decide), hu_row (by decide)]) (by rw [hu_row (by decide), hu_row (by decide)]) (by rw [hu_row (by decide), hu_row (by decide)]) h1, ⟨i + 1, hi, ts1, by rw [hu_ni (by decide), hu_eq, i3]; omega, ?_, by rw [hu_ni (by decide), hu_ni (by decide)]; exact i4.2⟩, by rw [hu_ni (by decide), hu_ni (by decide)]; exact h5, by rw [hu_ni (by decide), hu_ni (by decide)]; exact h11, by rw [hu_ni (by decide), hu_ni (by decide)]; exact h12, by rw [hu_ni (by decide), hu_ni (by decide)]; exact h13, by rw [hu_row (by omega), hu_row (by omega)]; exact h14, h15, h16⟩, ⟨fun a a1 a2 a3 => by rw [hu_row a1, hu_row a1], fun f f1 f2 f3 f4 f5 => by rw [hu_ni f4, hu_ni f3], fun f f1 => by rw [hu_row (by omega), hu_row (by omega)], fun x hx => by rw [hu_row (by omega), hu_row (by omega)]⟩⟩
  rw [hu_eq, ts1, (tK_drop (T := T) (i := i + 1)).1, i3, show ((i : Int) + 1) = ((i + 1 : Nat) : Int) by omega]
  exact q.1
theorem PS_fail {h : jx_H} {T ts : List Tok} {s o t u c : Int} (p : PS h T ts s o t u) (hc : 1 ≤ c ∧ c ≤ 5) : PB (sFail h c) T t (c, tB ts) ∧ PFr h (sFail h c) t u := by
  have ix := PS_idx p
  obtain ⟨h1, -, h5, h11, h12, h13, h14, h15, h16⟩ := p
  unfold sFail
  refine ⟨⟨PT_keep (by rw [hu_ni (by decide), hu_ni (by decide), hu_ni (by decide), hu_ni (by decide)]) (by rw [hu_row (by decide), hu_row (by decide), hu_row (by decide), hu_row (by decide)]) (by rw [hu_row (by decide), hu_row (by decide), hu_row (by decide), hu_row (by decide)]) (by rw [hu_row (by decide), hu_row (by decide), hu_row (by decide), hu_row (by decide)]) h1, by rw [hu_ni (by decide), hu_ni (by decide), hu_ni (by decide), hu_eq], by rw [hu_ni (by decide), hu_ni (by decide), hu_eq]; exact ix.2.2.2.1, hc, by rw [hu_ni (by decide), hu_eq]; exact h1.2.2.1, hu_eq, by rw [hu_ni (by decide), hu_ni (by decide), hu_ni (by decide), hu_ni (by decide)]; exact h13, h15, by rw [hu_row (by omega), hu_row (by omega), hu_row (by omega), hu_row (by omega)]; omega, by rw [hu_row (by omega), hu_row (by omega), hu_row (by omega), hu_row (by omega)]; omega⟩, ⟨fun a a1 a2 a3 => by rw [hu_row a1, hu_row a1, hu_row a1, hu_row a1], fun f f1 f2 f3 f4 f5 => by rw [hu_ni f4, hu_ni f3, hu_ni f2, hu_ni f1], fun f f1 => by rw [hu_row (by omega), hu_row (by omega), hu_row (by omega), hu_row (by omega)], fun x hx => by rw [hu_row (by omega), hu_row (by omega), hu_row (by omega), hu_row (by omega)]⟩⟩
theorem PS_open {h : jx_H} {T ts : List Tok} {s o t u o2 : Int} (p : PS h T ts s o t u) : PS (hu h 6 11 o2) T ts s o2 t u ∧ PFr h (hu h 6 11 o2) t u := by
  obtain ⟨h1, ⟨i, i1, i2, i3, i4⟩, h5, h11, h12, h13, h14, h15, h16⟩ := p
  refine ⟨⟨PT_keep (hu_ni (by decide)) (hu_row (by decide)) (hu_row (by decide)) (hu_row (by decide)) h1, ⟨i, i1, i2, by rw [hu_ni (by decide)]; exact i3, by rw [hu_ni (by decide)]; exact i4.1, by rw [hu_ni (by decide)]; exact i4.2⟩, by rw [hu_ni (by decide)]; exact h5, hu_eq, by rw [hu_ni (by decide)]; exact h12, by rw [hu_ni (by decide)]; exact h13, by rw [hu_row (by omega)]; exact h14, h15, h16⟩, ⟨fun a a1 a2 a3 => hu_row a1, fun f f1 f2 f3 f4 f5 => hu_ni f5, fun f f1 => by rw [hu_row (by omega)], fun x hx => by rw [hu_row (by omega)]⟩⟩
theorem PB_open {h : jx_H} {T : List Tok} {t o2 : Int} {e : Int × Int} (p : PB h T t e) (u : Int) : PB (hu h 6 11 o2) T t e ∧ PFr h (hu h 6 11 o2) t u := by
  obtain ⟨h1, h2, h3, h4, h5, h6, h7, h8, h9, h10⟩ := p
  refine ⟨⟨PT_keep (hu_ni (by decide)) (hu_row (by decide)) (hu_row (by decide)) (hu_row (by decide)) h1, by rw [hu_ni (by decide)]; exact h2, by rw [hu_ni (by decide)]; exact h3, h4, by rw [hu_ni (by decide)]; exact h5, by rw [hu_ni (by decide)]; exact h6, by rw [hu_ni (by decide)]; exact h7, h8, by rw [hu_row (by omega)]; exact h9, by rw [hu_row (by omega)]; exact h10⟩, ⟨fun a a1 a2 a3 => hu_row a1, fun f f1 f2 f3 f4 f5 => hu_ni f5, fun f f1 => by rw [hu_row (by omega)], fun x hx => by rw [hu_row (by omega)]⟩⟩
theorem PS_add {h : jx_H} {T ts : List Tok} {s o t u w : Int} (p : PS h T ts s o t u) (hu0 : u < 300) : PS (sAdd h t w) T ts s o t (u + 1) ∧ PFr h (sAdd h t w) t u ∧ sAdd h t w (t + 20) u = w := by
  obtain ⟨h1, ⟨i, i1, i2, i3, i4⟩, h5, h11, h12, h13, h14, h15, h16⟩ := p
  unfold sAdd
  rw [if_pos (by omega), h14]
  refine ⟨⟨PT_keep (by rw [hu_row (by omega), hu_row (by omega)]) (by rw [hu_row (by omega), hu_row (by omega)]) (by rw [hu_row (by omega), hu_row (by omega)]) (by rw [hu_row (by omega), hu_row (by omega)]) h1, ⟨i, i1, i2, by rw [hu_row (by omega), hu_row (by omega)]; exact i3, by rw [hu_row (by omega), hu_row (by omega)]; exact i4.1, by rw [hu_row (by omega), hu_row (by omega)]; exact i4.2⟩, by rw [hu_row (by omega), hu_row (by omega)]; exact h5, by rw [hu_row (by omega), hu_row (by omega)]; exact h11, by rw [hu_row (by omega), hu_row (by omega)]; exact h12, by rw [hu_row (by omega), hu_row (by omega)]; exact h13, hu_eq, h15, by omega, by omega⟩, ⟨fun a a1 a2 a3 => by rw [hu_row a2, hu_row a3], fun f f1 f2 f3 f4 f5 => by rw [hu_row (by omega), hu_row (by omega)], fun f f1 => by rw [hu_ni f1, hu_row (by omega)], fun x hx => by rw [hu_row (by omega), hu_ni (by omega)]⟩, by rw [hu_row (by omega), hu_eq]⟩
theorem PB_add {h : jx_H} {T : List Tok} {t w u : Int} {e : Int × Int} (p : PB h T t e) (hu0 : u ≤ h t 3) : PB (sAdd h t w) T t e ∧ PFr h (sAdd h t w) t u := by
  obtain ⟨h1, h2, h3, h4, h5, h6, h7, h8, h9, h10⟩ := p
  unfold sAdd
  by_cases hc : h t 3 < 300
  · rw [if_pos hc]
    refine ⟨⟨PT_keep (by rw [hu_row (by omega), hu_row (by omega)]) (by rw [hu_row (by omega), hu_row (by omega)]) (by rw [hu_row (by omega), hu_row (by omega)]) (by rw [hu_row (by omega), hu_row (by omega)]) h1, by rw [hu_row (by omega), hu_row (by omega)]; exact h2, by rw [hu_row (by omega), hu_row (by omega)]; exact h3, h4, by rw [hu_row (by omega), hu_row (by omega)]; exact h5, by rw [hu_row (by omega), hu_row (by omega)]; exact h6, by rw [hu_row (by omega), hu_row (by omega)]; exact h7, h8, by rw [hu_eq]; omega, by rw [hu_eq]; omega⟩, ⟨fun a a1 a2 a3 => by rw [hu_row a2, hu_row a3], fun f f1 f2 f3 f4 f5 => by rw [hu_row (by omega), hu_row (by omega)], fun f f1 => by rw [hu_ni f1, hu_row (by omega)], fun x hx => by rw [hu_row (by omega), hu_ni (by omega)]⟩⟩
  · rw [if_neg hc]
    exact ⟨⟨h1, h2, h3, h4, h5, h6, h7, h8, h9, h10⟩, PFr_rf h t u⟩
theorem PB_fail {h : jx_H} {T : List Tok} {t c : Int} {e : Int × Int} {K : Int → jx_H → Prop} (p : PB h T t e) (hc : I32 c) (hK : K 0 h) : jx_Cal wC 1 hX7_fail [vr 6, vi c] h K := by
  obtain ⟨h1, h2, h3, h4, h5, h6, h7, h8, h9, h10⟩ := p
  have hl := h1.2.1
  have hT : 1 ≤ T.length := by
    match T, h1.1 with
    | t :: r, _ => simp
  refine C_fail hc (by omega) (by unfold I32; omega) ?_
  rw [if_neg (by omega)]
  exact hK
theorem Cod_app {h : jx_H} {c : Int} : ∀ {L M : List Itm} {k : Int}, Cod h c k (L ++ M) ↔ Cod h c k L ∧ Cod h c (k + L.length) M
  | [], M, k => by
    show Cod h c k M ↔ True ∧ Cod h c (k + ((0 : Nat) : Int)) M
    rw [show k + ((0 : Nat) : Int) = k by omega]
    exact ⟨fun q => ⟨trivial, q⟩, fun q => q.2⟩
  | q :: L, M, k => by
    show (h c k = cw q ∧ Cod h c (k + 1) (L ++ M)) ↔ (h c k = cw q ∧ Cod h c (k + 1) L) ∧ Cod h c (k + ((L.length + 1 : Nat) : Int)) M
    rw [Cod_app (L := L) (M := M) (k := k + 1), show k + ((L.length + 1 : Nat) : Int) = k + 1 + (L.length : Int) by omega]
    exact ⟨fun q => ⟨⟨q.1, q.2.1⟩, q.2.2⟩, fun q => ⟨q.1.1, q.1.2, q.2⟩⟩
theorem Cod_keep {h h' : jx_H} {c v : Int} : ∀ {L : List Itm} {k : Int}, (∀ x, x < v → h' c x = h c x) → k + L.length ≤ v → Cod h c k L → Cod h' c k L
  | [], _, _, _, _ => trivial
  | q :: L, k, e, hv, hc => by
    have hv2 : k + ((L.length + 1 : Nat) : Int) ≤ v := hv
    exact ⟨by rw [e k (by omega)]; exact hc.1, Cod_keep e (by omega) hc.2⟩
