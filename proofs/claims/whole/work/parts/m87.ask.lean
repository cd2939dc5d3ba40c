/-! THE LAW: the case whose answer is a long -/
section
variable {l : Launch} {D : va_G} {cA : Nat → ClassId} {p : Program} {e : Env} {s : State} {m : MethodId} {args : Array Value} {below : List Frame} {meth : Method} {c : Code} {H : Heap} {cells slots : Nat} {Q : State → Prop} {ls : Array Slot} {bS L i n : Nat} {xs : Nat → Int32} {A : aS} {σ τ : fhM}
set_option maxRecDepth 100000 in
theorem lcs_33 (C : lCtx D cA p s m args c ls bS L i xs) (hR : cells ≤ 600000 ∧ slots ≤ 7302250) (hc : CS A σ) (hm : MS A τ) (hv : AV n A) (hM : lMm D cA s H σ τ) (kk : lNx l D cA p e s m args below meth c cells slots Q ls n) : W p l e room_1 s m args below meth c H [] cells slots Q (F0 m 1039 ls []) := by
  obtain ⟨v, a, b, B, e1, e2, c1, m1, v1⟩ := p_ask hc hm hv
  obtain ⟨hx, hb, hml, hown, hts, hK, hXl, hl, hX, hbl, hL, hij⟩ := C
  obtain ⟨hP1, hP2, hS⟩ := hM
  have tF := T_X11_ask (E := (l, D, s.heap.size, cA, lX s.heap.size)) (d := 69) (lX_E (Nat.le_refl _)) (Nat.le_refl _) σ (o := (v, a)) e1
  have tM := T_X12_ask (E := (l, D, s.heap.size + 102, cA, lX s.heap.size)) (d := 9) (Nat.le_refl _) τ (o := (v, b)) e2
  refine lv_aload_n hx hb (show decode code 1039 = .ok (.aload_n 1, 1) by decide +kernel) rfl (lv_at hl 2 rfl) ?_
  refine lcall (av := []) (Y1 := fhYF) (Y2 := fhYM) (b1 := s.heap.size) (b2 := s.heap.size + 102) (σ2 := τ) (ci := 11) (rest := []) hx hb hml hown hts hK hXl tF mvX11_ask ll_152 (by decide) (Nat.le_refl _) (fun q h h' => ?_) rfl rfl rfl (Nat.zero_le _) hl.1 (by decide +kernel) hR hP1 hP2 hS (fun H1 hP1 hP2 hS => ?_)
  · have a1 : q < s.heap.size + 102 := h.2
    have a2 : s.heap.size + 102 ≤ q := h'.1
    omega
  refine lv_aload_n hx hb (show decode code 1043 = .ok (.aload_n 2, 1) by decide +kernel) rfl (lv_at hl 1 rfl) ?_
  refine lcall (av := []) (Y1 := fhYM) (Y2 := fhYF) (b1 := s.heap.size + 102) (b2 := s.heap.size) (σ2 := a) (ci := 12) (rest := [.long v]) hx hb hml hown hts hK hXl tM mvX12_ask ll_156 (by decide) (Nat.le_add_right _ _) (fun q h h' => ?_) rfl rfl rfl (by show 2 ≤ 8; decide) hl.1 (by decide +kernel) hR hP2 hP1 hS (fun H1 hP1 hP2 hS => ?_)
  · have a1 : q < s.heap.size + 102 := h'.2
    have a2 : s.heap.size + 102 ≤ q := h.1
    omega
  refine W.lcmp hx hb (show decode code 1047 = .ok (.lcmp, 1) by decide +kernel) ?_
  exact lv_if_eq (tgt := 1125) hx hb (show decode code 1048 = .ok (.ifCond .eq 77, 3) by decide +kernel) (by decide) (fun _ => kk B a b H1 c1 m1 v1 ⟨hP2, hP1, hS⟩) (fun h => absurd ((lg_cmp_eq _ _).mpr rfl) h)
end
