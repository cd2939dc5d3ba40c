/-! THE LAW: its cases, by program -/
theorem okm {α : Type} {o : Option α} {σ a : fhM} {v : α} (h : Option.map (fun x => (x, σ)) o = some (v, a)) : o = some v ∧ σ = a := by
  cases o with
  | none => cases h
  | some x => cases h; exact ⟨rfl, rfl⟩
theorem okcc {α : Type} {f v : α} {σ a : fhM} (h : some (f, σ) = some (v, a)) : f = v ∧ σ = a := by
  cases h
  exact ⟨rfl, rfl⟩
def lCtx (D : va_G) (cA : Nat → ClassId) (p : Program) (s : State) (m : MethodId) (args : Array Value) (c : Code) (ls : Array Slot) (bS L i : Nat) (xs : Nat → Int32) : Prop := p.tables.exec = Jvm.exec ∧ c.code = code ∧ c.maxLocals = 4 ∧ s.vm.findClass (fhrx 15) = some m.cls ∧ (∀ w ∈ fhtbl, w.before args s = true) ∧ va_K D vwCl (fhtys cA) s ∧ lX s.heap.size s ∧ lv_has ls 4 [(3, .int (nI i)), (2, .ref (s.heap.size + 102)), (1, .ref s.heap.size), (0, .ref bS)] ∧ va_X bS L xs s s.heap ∧ bS < s.heap.size ∧ L ≤ 3072 ∧ i + 6 ≤ L
def lMm (D : va_G) (cA : Nat → ClassId) (s : State) (H : Heap) (σ τ : fhM) : Prop := va_P D vwCl (fhws fhYF s.heap.size cA σ) H ∧ va_P D vwCl (fhws fhYM (s.heap.size + 102) cA τ) H ∧ va_S (gAa s.heap.size) s.heap H []
section
variable {l : Launch} {D : va_G} {cA : Nat → ClassId} {p : Program} {e : Env} {s : State} {m : MethodId} {args : Array Value} {below : List Frame} {meth : Method} {c : Code} {H : Heap} {cells slots : Nat} {Q : State → Prop} {ls : Array Slot} {bS L i n : Nat} {xs : Nat → Int32} {A : aS} {σ τ : fhM}
/-- behind a case -/
def lNx (l : Launch) (D : va_G) (cA : Nat → ClassId) (p : Program) (e : Env) (s : State) (m : MethodId) (args : Array Value) (below : List Frame) (meth : Method) (c : Code) (cells slots : Nat) (Q : State → Prop) (ls : Array Slot) (n : Nat) : Prop := ∀ (B : aS) (a b : fhM) (H1 : Heap), CS B a → MS B b → AV (n + 1) B → lMm D cA s H1 a b → W p l e room_1 s m args below meth c H1 [] cells slots Q (F0 m 1125 ls [])
set_option maxRecDepth 100000 in
theorem lcs_0 (C : lCtx D cA p s m args c ls bS L i xs) (hR : cells ≤ 600000 ∧ slots ≤ 7302250) (hn : n ≤ 1000) (hc : CS A σ) (hm : MS A τ) (hv : AV n A) (hM : lMm D cA s H σ τ) (kk : lNx l D cA p e s m args below meth c cells slots Q ls n) : W p l e room_1 s m args below meth c H [] cells slots Q (F0 m 200 ls []) := by
  obtain ⟨v, a, b, B, e1, e2, c1, m1, v1⟩ := p_feed hc hm hv (xs (i + 1)) (xs (i + 1 + 1)) (xs (i + 1 + 1 + 1)) (xs (i + 1 + 1 + 1 + 1)) (xs (i + 1 + 1 + 1 + 1 + 1))
  obtain ⟨hx, hb, hml, hown, hts, hK, hXl, hl, hX, hbl, hL, hij⟩ := C
  obtain ⟨hP1, hP2, hS⟩ := hM
  have tF := T_X11_feed (E := (l, D, s.heap.size, cA, lX s.heap.size)) (d := 2) (lX_E (Nat.le_refl _)) (Nat.le_refl _) (xs (i + 1)) (xs (i + 1 + 1)) (xs (i + 1 + 1 + 1)) (xs (i + 1 + 1 + 1 + 1)) (xs (i + 1 + 1 + 1 + 1 + 1)) σ (o := (v, a)) e1
  have tM := T_X12_feed (E := (l, D, s.heap.size + 102, cA, lX s.heap.size)) (d := 0) (Nat.le_refl _) (xs (i + 1)) (xs (i + 1 + 1)) (xs (i + 1 + 1 + 1)) (xs (i + 1 + 1 + 1 + 1)) (xs (i + 1 + 1 + 1 + 1 + 1)) τ (o := (v, b)) e2
  exact lcase (a := 5) (pc := 200) (iF := 13) (iM := 17) (off := 867) (v := v) hx hb hml hown hts hK hXl hl (lv_at hl 3 rfl) (lv_at hl 2 rfl) (lv_at hl 1 rfl) (lv_at hl 0 rfl) hX hbl hL hR (by omega) (by decide +kernel) tF mvX11_feed ll_13 (by decide) rfl tM mvX12_feed ll_17 (by decide) rfl hP1 hP2 hS (fun H1 q1 q2 q3 => kk B _ _ H1 c1 m1 v1 ⟨q1, q2, q3⟩)
set_option maxRecDepth 100000 in
theorem lcs_1 (C : lCtx D cA p s m args c ls bS L i xs) (hR : cells ≤ 600000 ∧ slots ≤ 7302250) (hn : n ≤ 1000) (hc : CS A σ) (hm : MS A τ) (hv : AV n A) (hM : lMm D cA s H σ τ) (kk : lNx l D cA p e s m args below meth c cells slots Q ls n) : W p l e room_1 s m args below meth c H [] cells slots Q (F0 m 263 ls []) := by
  obtain ⟨v, a, b, B, e1, e2, c1, m1, v1⟩ := p_end hc hm hv (xs (i + 1))
  obtain ⟨hx, hb, hml, hown, hts, hK, hXl, hl, hX, hbl, hL, hij⟩ := C
  obtain ⟨hP1, hP2, hS⟩ := hM
  have gF := Option.some.inj e1
  have tF := T_X11_end (E := (l, D, s.heap.size, cA, lX s.heap.size)) (d := 2) (lX_E (Nat.le_refl _)) (Nat.le_refl _) (xs (i + 1)) σ
  rw [gF] at tF
  have gM := Option.some.inj e2
  have tM := T_X12_end (E := (l, D, s.heap.size + 102, cA, lX s.heap.size)) (d := 0) (Nat.le_refl _) (xs (i + 1)) τ
  rw [gM] at tM
  exact lcase (a := 1) (pc := 263) (iF := 18) (iM := 22) (off := 844) (v := (fhb v)) hx hb hml hown hts hK hXl hl (lv_at hl 3 rfl) (lv_at hl 2 rfl) (lv_at hl 1 rfl) (lv_at hl 0 rfl) hX hbl hL hR (by omega) (by decide +kernel) tF mvX11_end ll_18 (by decide) rfl tM mvX12_end ll_22 (by decide) rfl hP1 hP2 hS (fun H1 q1 q2 q3 => kk B _ _ H1 c1 m1 v1 ⟨q1, q2, q3⟩)
set_option maxRecDepth 100000 in
theorem lcs_2 (C : lCtx D cA p s m args c ls bS L i xs) (hR : cells ≤ 600000 ∧ slots ≤ 7302250) (hn : n ≤ 1000) (hc : CS A σ) (hm : MS A τ) (hv : AV n A) (hM : lMm D cA s H σ τ) (kk : lNx l D cA p e s m args below meth c cells slots Q ls n) : W p l e room_1 s m args below meth c H [] cells slots Q (F0 m 286 ls []) := by
  obtain ⟨v, a, b, B, e1, e2, c1, m1, v1⟩ := p_parlour hc hm hv
  obtain ⟨hx, hb, hml, hown, hts, hK, hXl, hl, hX, hbl, hL, hij⟩ := C
  obtain ⟨hP1, hP2, hS⟩ := hM
  have tF := T_X11_parlour (E := (l, D, s.heap.size, cA, lX s.heap.size)) (d := 70) (lX_E (Nat.le_refl _)) (Nat.le_refl _)  σ (o := (v, a)) e1
  have tM := T_X12_parlour (E := (l, D, s.heap.size + 102, cA, lX s.heap.size)) (d := 11) (Nat.le_refl _)  τ (o := (v, b)) e2
  exact lcase (a := 0) (pc := 286) (iF := 23) (iM := 27) (off := 831) (v := v) hx hb hml hown hts hK hXl hl (lv_at hl 3 rfl) (lv_at hl 2 rfl) (lv_at hl 1 rfl) (lv_at hl 0 rfl) hX hbl hL hR (by omega) (by decide +kernel) tF mvX11_parlour ll_23 (by decide) rfl tM mvX12_parlour ll_27 (by decide) rfl hP1 hP2 hS (fun H1 q1 q2 q3 => kk B _ _ H1 c1 m1 v1 ⟨q1, q2, q3⟩)
set_option maxRecDepth 100000 in
theorem lcs_3 (C : lCtx D cA p s m args c ls bS L i xs) (hR : cells ≤ 600000 ∧ slots ≤ 7302250) (hn : n ≤ 1000) (hc : CS A σ) (hm : MS A τ) (hv : AV n A) (hM : lMm D cA s H σ τ) (kk : lNx l D cA p e s m args below meth c cells slots Q ls n) : W p l e room_1 s m args below meth c H [] cells slots Q (F0 m 299 ls []) := by
  obtain ⟨v, a, b, B, e1, e2, c1, m1, v1⟩ := p_fault hc hm hv (xs (i + 1))
  obtain ⟨hx, hb, hml, hown, hts, hK, hXl, hl, hX, hbl, hL, hij⟩ := C
  obtain ⟨hP1, hP2, hS⟩ := hM
  obtain ⟨gF, rfl⟩ := okcc e1
  have tF := T_X11_fault (E := (l, D, s.heap.size, cA, lX s.heap.size)) (d := 0) (lX_E (Nat.le_refl _)) (Nat.le_refl _) (xs (i + 1)) σ
  rw [gF] at tF
  obtain ⟨gM, rfl⟩ := okcc e2
  have tM := T_X12_fault (E := (l, D, s.heap.size + 102, cA, lX s.heap.size)) (d := 0) (Nat.le_refl _) (xs (i + 1)) τ
  rw [gM] at tM
  exact lcase (a := 1) (pc := 299) (iF := 28) (iM := 32) (off := 808) (v := v) hx hb hml hown hts hK hXl hl (lv_at hl 3 rfl) (lv_at hl 2 rfl) (lv_at hl 1 rfl) (lv_at hl 0 rfl) hX hbl hL hR (by omega) (by decide +kernel) tF mvX11_fault ll_28 (by decide) rfl tM mvX12_fault ll_32 (by decide) rfl hP1 hP2 hS (fun H1 q1 q2 q3 => kk B _ _ H1 c1 m1 v1 ⟨q1, q2, q3⟩)
set_option maxRecDepth 100000 in
theorem lcs_4 (C : lCtx D cA p s m args c ls bS L i xs) (hR : cells ≤ 600000 ∧ slots ≤ 7302250) (hn : n ≤ 1000) (hc : CS A σ) (hm : MS A τ) (hv : AV n A) (hM : lMm D cA s H σ τ) (kk : lNx l D cA p e s m args below meth c cells slots Q ls n) : W p l e room_1 s m args below meth c H [] cells slots Q (F0 m 322 ls []) := by
  obtain ⟨v, a, b, B, e1, e2, c1, m1, v1⟩ := p_has hc hm hv hn (xs (i + 1))
  obtain ⟨hx, hb, hml, hown, hts, hK, hXl, hl, hX, hbl, hL, hij⟩ := C
  obtain ⟨hP1, hP2, hS⟩ := hM
  obtain ⟨gF, rfl⟩ := okm e1
  have tF := T_X11_has (E := (l, D, s.heap.size, cA, lX s.heap.size)) (d := 2) (lX_E (Nat.le_refl _)) (Nat.le_refl _) (xs (i + 1)) σ gF
  have tM := T_X12_has (E := (l, D, s.heap.size + 102, cA, lX s.heap.size)) (d := 5) (Nat.le_refl _) (xs (i + 1)) τ (o := (v, b)) e2
  exact lcase (a := 1) (pc := 322) (iF := 33) (iM := 36) (off := 785) (v := v) hx hb hml hown hts hK hXl hl (lv_at hl 3 rfl) (lv_at hl 2 rfl) (lv_at hl 1 rfl) (lv_at hl 0 rfl) hX hbl hL hR (by omega) (by decide +kernel) tF mvX11_has ll_33 (by decide) rfl tM mvX12_has ll_36 (by decide) rfl hP1 hP2 hS (fun H1 q1 q2 q3 => kk B _ _ H1 c1 m1 v1 ⟨q1, q2, q3⟩)
set_option maxRecDepth 100000 in
theorem lcs_5 (C : lCtx D cA p s m args c ls bS L i xs) (hR : cells ≤ 600000 ∧ slots ≤ 7302250) (hn : n ≤ 1000) (hc : CS A σ) (hm : MS A τ) (hv : AV n A) (hM : lMm D cA s H σ τ) (kk : lNx l D cA p e s m args below meth c cells slots Q ls n) : W p l e room_1 s m args below meth c H [] cells slots Q (F0 m 345 ls []) := by
  obtain ⟨v, a, b, B, e1, e2, c1, m1, v1⟩ := p_letter hc hm hv (xs (i + 1)) (xs (i + 1 + 1))
  obtain ⟨hx, hb, hml, hown, hts, hK, hXl, hl, hX, hbl, hL, hij⟩ := C
  obtain ⟨hP1, hP2, hS⟩ := hM
  obtain ⟨gF, rfl⟩ := okm e1
  have tF := T_X11_letter (E := (l, D, s.heap.size, cA, lX s.heap.size)) (d := 1) (lX_E (Nat.le_refl _)) (Nat.le_refl _) (xs (i + 1)) (xs (i + 1 + 1)) σ gF
  obtain ⟨gM, rfl⟩ := okm e2
  have tM := T_X12_letter (E := (l, D, s.heap.size + 102, cA, lX s.heap.size)) (d := 2) (Nat.le_refl _) (xs (i + 1)) (xs (i + 1 + 1)) τ gM
  exact lcase (a := 2) (pc := 345) (iF := 37) (iM := 41) (off := 752) (v := v) hx hb hml hown hts hK hXl hl (lv_at hl 3 rfl) (lv_at hl 2 rfl) (lv_at hl 1 rfl) (lv_at hl 0 rfl) hX hbl hL hR (by omega) (by decide +kernel) tF mvX11_letter ll_37 (by decide) rfl tM mvX12_letter ll_41 (by decide) rfl hP1 hP2 hS (fun H1 q1 q2 q3 => kk B _ _ H1 c1 m1 v1 ⟨q1, q2, q3⟩)
set_option maxRecDepth 100000 in
theorem lcs_6 (C : lCtx D cA p s m args c ls bS L i xs) (hR : cells ≤ 600000 ∧ slots ≤ 7302250) (hn : n ≤ 1000) (hc : CS A σ) (hm : MS A τ) (hv : AV n A) (hM : lMm D cA s H σ τ) (kk : lNx l D cA p e s m args below meth c cells slots Q ls n) : W p l e room_1 s m args below meth c H [] cells slots Q (F0 m 378 ls []) := by
  obtain ⟨v, a, b, B, e1, e2, c1, m1, v1⟩ := p_guest hc hm hv (xs (i + 1)) (xs (i + 1 + 1))
  obtain ⟨hx, hb, hml, hown, hts, hK, hXl, hl, hX, hbl, hL, hij⟩ := C
  obtain ⟨hP1, hP2, hS⟩ := hM
  obtain ⟨gF, rfl⟩ := okm e1
  have tF := T_X11_guest (E := (l, D, s.heap.size, cA, lX s.heap.size)) (d := 4) (lX_E (Nat.le_refl _)) (Nat.le_refl _) (xs (i + 1)) (xs (i + 1 + 1)) σ gF
  have tM := T_X12_guest (E := (l, D, s.heap.size + 102, cA, lX s.heap.size)) (d := 3) (Nat.le_refl _) (xs (i + 1)) (xs (i + 1 + 1)) τ (o := (v, b)) e2
  exact lcase (a := 2) (pc := 378) (iF := 42) (iM := 45) (off := 719) (v := v) hx hb hml hown hts hK hXl hl (lv_at hl 3 rfl) (lv_at hl 2 rfl) (lv_at hl 1 rfl) (lv_at hl 0 rfl) hX hbl hL hR (by omega) (by decide +kernel) tF mvX11_guest ll_42 (by decide) rfl tM mvX12_guest ll_45 (by decide) rfl hP1 hP2 hS (fun H1 q1 q2 q3 => kk B _ _ H1 c1 m1 v1 ⟨q1, q2, q3⟩)
set_option maxRecDepth 100000 in
theorem lcs_7 (C : lCtx D cA p s m args c ls bS L i xs) (hR : cells ≤ 600000 ∧ slots ≤ 7302250) (hn : n ≤ 1000) (hc : CS A σ) (hm : MS A τ) (hv : AV n A) (hM : lMm D cA s H σ τ) (kk : lNx l D cA p e s m args below meth c cells slots Q ls n) : W p l e room_1 s m args below meth c H [] cells slots Q (F0 m 411 ls []) := by
  obtain ⟨v, a, b, B, e1, e2, c1, m1, v1⟩ := p_fact hc hm hv (xs (i + 1)) (xs (i + 1 + 1))
  obtain ⟨hx, hb, hml, hown, hts, hK, hXl, hl, hX, hbl, hL, hij⟩ := C
  obtain ⟨hP1, hP2, hS⟩ := hM
  obtain ⟨gF, rfl⟩ := okm e1
  have tF := T_X11_fact (E := (l, D, s.heap.size, cA, lX s.heap.size)) (d := 3) (lX_E (Nat.le_refl _)) (Nat.le_refl _) (xs (i + 1)) (xs (i + 1 + 1)) σ gF
  obtain ⟨gM, rfl⟩ := okm e2
  have tM := T_X12_fact (E := (l, D, s.heap.size + 102, cA, lX s.heap.size)) (d := 2) (Nat.le_refl _) (xs (i + 1)) (xs (i + 1 + 1)) τ gM
  exact lcase (a := 2) (pc := 411) (iF := 46) (iM := 49) (off := 686) (v := v) hx hb hml hown hts hK hXl hl (lv_at hl 3 rfl) (lv_at hl 2 rfl) (lv_at hl 1 rfl) (lv_at hl 0 rfl) hX hbl hL hR (by omega) (by decide +kernel) tF mvX11_fact ll_46 (by decide) rfl tM mvX12_fact ll_49 (by decide) rfl hP1 hP2 hS (fun H1 q1 q2 q3 => kk B _ _ H1 c1 m1 v1 ⟨q1, q2, q3⟩)
set_option maxRecDepth 100000 in
theorem lcs_8 (C : lCtx D cA p s m args c ls bS L i xs) (hR : cells ≤ 600000 ∧ slots ≤ 7302250) (hn : n ≤ 1000) (hc : CS A σ) (hm : MS A τ) (hv : AV n A) (hM : lMm D cA s H σ τ) (kk : lNx l D cA p e s m args below meth c cells slots Q ls n) : W p l e room_1 s m args below meth c H [] cells slots Q (F0 m 444 ls []) := by
  obtain ⟨v, a, b, B, e1, e2, c1, m1, v1⟩ := p_left hc hm hv (xs (i + 1))
  obtain ⟨hx, hb, hml, hown, hts, hK, hXl, hl, hX, hbl, hL, hij⟩ := C
  obtain ⟨hP1, hP2, hS⟩ := hM
  obtain ⟨gF, rfl⟩ := okcc e1
  have tF := T_X11_left (E := (l, D, s.heap.size, cA, lX s.heap.size)) (d := 1) (lX_E (Nat.le_refl _)) (Nat.le_refl _) (xs (i + 1)) σ
  rw [gF] at tF
  obtain ⟨gM, rfl⟩ := okm e2
  have tM := T_X12_left (E := (l, D, s.heap.size + 102, cA, lX s.heap.size)) (d := 1) (Nat.le_refl _) (xs (i + 1)) τ gM
  exact lcase (a := 1) (pc := 444) (iF := 50) (iM := 53) (off := 663) (v := v) hx hb hml hown hts hK hXl hl (lv_at hl 3 rfl) (lv_at hl 2 rfl) (lv_at hl 1 rfl) (lv_at hl 0 rfl) hX hbl hL hR (by omega) (by decide +kernel) tF mvX11_left ll_50 (by decide) rfl tM mvX12_left ll_53 (by decide) rfl hP1 hP2 hS (fun H1 q1 q2 q3 => kk B _ _ H1 c1 m1 v1 ⟨q1, q2, q3⟩)
set_option maxRecDepth 100000 in
theorem lcs_9 (C : lCtx D cA p s m args c ls bS L i xs) (hR : cells ≤ 600000 ∧ slots ≤ 7302250) (hn : n ≤ 1000) (hc : CS A σ) (hm : MS A τ) (hv : AV n A) (hM : lMm D cA s H σ τ) (kk : lNx l D cA p e s m args below meth c cells slots Q ls n) : W p l e room_1 s m args below meth c H [] cells slots Q (F0 m 467 ls []) := by
  obtain ⟨v, a, b, B, e1, e2, c1, m1, v1⟩ := p_wears hc hm hv (xs (i + 1)) (xs (i + 1 + 1))
  obtain ⟨hx, hb, hml, hown, hts, hK, hXl, hl, hX, hbl, hL, hij⟩ := C
  obtain ⟨hP1, hP2, hS⟩ := hM
  obtain ⟨gF, rfl⟩ := okcc e1
  have tF := T_X11_wears (E := (l, D, s.heap.size, cA, lX s.heap.size)) (d := 2) (lX_E (Nat.le_refl _)) (Nat.le_refl _) (xs (i + 1)) (xs (i + 1 + 1)) σ
  rw [gF] at tF
  obtain ⟨gM, rfl⟩ := okm e2
  have tM := T_X12_wears (E := (l, D, s.heap.size + 102, cA, lX s.heap.size)) (d := 2) (Nat.le_refl _) (xs (i + 1)) (xs (i + 1 + 1)) τ gM
  exact lcase (a := 2) (pc := 467) (iF := 54) (iM := 57) (off := 630) (v := v) hx hb hml hown hts hK hXl hl (lv_at hl 3 rfl) (lv_at hl 2 rfl) (lv_at hl 1 rfl) (lv_at hl 0 rfl) hX hbl hL hR (by omega) (by decide +kernel) tF mvX11_wears ll_54 (by decide) rfl tM mvX12_wears ll_57 (by decide) rfl hP1 hP2 hS (fun H1 q1 q2 q3 => kk B _ _ H1 c1 m1 v1 ⟨q1, q2, q3⟩)
set_option maxRecDepth 100000 in
theorem lcs_10 (C : lCtx D cA p s m args c ls bS L i xs) (hR : cells ≤ 600000 ∧ slots ≤ 7302250) (hn : n ≤ 1000) (hc : CS A σ) (hm : MS A τ) (hv : AV n A) (hM : lMm D cA s H σ τ) (kk : lNx l D cA p e s m args below meth c cells slots Q ls n) : W p l e room_1 s m args below meth c H [] cells slots Q (F0 m 500 ls []) := by
  obtain ⟨v, a, b, B, e1, e2, c1, m1, v1⟩ := p_kept hc hm hv hn (xs (i + 1)) (xs (i + 1 + 1))
  obtain ⟨hx, hb, hml, hown, hts, hK, hXl, hl, hX, hbl, hL, hij⟩ := C
  obtain ⟨hP1, hP2, hS⟩ := hM
  obtain ⟨gF, rfl⟩ := okcc e1
  have tF := T_X11_kept (E := (l, D, s.heap.size, cA, lX s.heap.size)) (d := 3) (lX_E (Nat.le_refl _)) (Nat.le_refl _) (xs (i + 1)) (xs (i + 1 + 1)) σ
  rw [gF] at tF
  obtain ⟨gM, rfl⟩ := okm e2
  have tM := T_X12_kept (E := (l, D, s.heap.size + 102, cA, lX s.heap.size)) (d := 1) (Nat.le_refl _) (xs (i + 1)) (xs (i + 1 + 1)) τ gM
  exact lcase (a := 2) (pc := 500) (iF := 58) (iM := 61) (off := 597) (v := v) hx hb hml hown hts hK hXl hl (lv_at hl 3 rfl) (lv_at hl 2 rfl) (lv_at hl 1 rfl) (lv_at hl 0 rfl) hX hbl hL hR (by omega) (by decide +kernel) tF mvX11_kept ll_58 (by decide) rfl tM mvX12_kept ll_61 (by decide) rfl hP1 hP2 hS (fun H1 q1 q2 q3 => kk B _ _ H1 c1 m1 v1 ⟨q1, q2, q3⟩)
set_option maxRecDepth 100000 in
theorem lcs_11 (C : lCtx D cA p s m args c ls bS L i xs) (hR : cells ≤ 600000 ∧ slots ≤ 7302250) (hn : n ≤ 1000) (hc : CS A σ) (hm : MS A τ) (hv : AV n A) (hM : lMm D cA s H σ τ) (kk : lNx l D cA p e s m args below meth c cells slots Q ls n) : W p l e room_1 s m args below meth c H [] cells slots Q (F0 m 533 ls []) := by
  obtain ⟨v, a, b, B, e1, e2, c1, m1, v1⟩ := p_knows hc hm hv (xs (i + 1)) (xs (i + 1 + 1))
  obtain ⟨hx, hb, hml, hown, hts, hK, hXl, hl, hX, hbl, hL, hij⟩ := C
  obtain ⟨hP1, hP2, hS⟩ := hM
  obtain ⟨gF, rfl⟩ := okm e1
  have tF := T_X11_knows (E := (l, D, s.heap.size, cA, lX s.heap.size)) (d := 4) (lX_E (Nat.le_refl _)) (Nat.le_refl _) (xs (i + 1)) (xs (i + 1 + 1)) σ gF
  have tM := T_X12_knows (E := (l, D, s.heap.size + 102, cA, lX s.heap.size)) (d := 3) (Nat.le_refl _) (xs (i + 1)) (xs (i + 1 + 1)) τ (o := (v, b)) e2
  exact lcase (a := 2) (pc := 533) (iF := 62) (iM := 65) (off := 564) (v := v) hx hb hml hown hts hK hXl hl (lv_at hl 3 rfl) (lv_at hl 2 rfl) (lv_at hl 1 rfl) (lv_at hl 0 rfl) hX hbl hL hR (by omega) (by decide +kernel) tF mvX11_knows ll_62 (by decide) rfl tM mvX12_knows ll_65 (by decide) rfl hP1 hP2 hS (fun H1 q1 q2 q3 => kk B _ _ H1 c1 m1 v1 ⟨q1, q2, q3⟩)
set_option maxRecDepth 100000 in
theorem lcs_12 (C : lCtx D cA p s m args c ls bS L i xs) (hR : cells ≤ 600000 ∧ slots ≤ 7302250) (hn : n ≤ 1000) (hc : CS A σ) (hm : MS A τ) (hv : AV n A) (hM : lMm D cA s H σ τ) (kk : lNx l D cA p e s m args below meth c cells slots Q ls n) : W p l e room_1 s m args below meth c H [] cells slots Q (F0 m 566 ls []) := by
  obtain ⟨v, a, b, B, e1, e2, c1, m1, v1⟩ := p_deep hc hm hv
  obtain ⟨hx, hb, hml, hown, hts, hK, hXl, hl, hX, hbl, hL, hij⟩ := C
  obtain ⟨hP1, hP2, hS⟩ := hM
  have tF := T_X11_deep (E := (l, D, s.heap.size, cA, lX s.heap.size)) (d := 4) (lX_E (Nat.le_refl _)) (Nat.le_refl _)  σ (o := (v, a)) e1
  have tM := T_X12_deep (E := (l, D, s.heap.size + 102, cA, lX s.heap.size)) (d := 3) (Nat.le_refl _)  τ (o := (v, b)) e2
  exact lcase (a := 0) (pc := 566) (iF := 66) (iM := 69) (off := 551) (v := v) hx hb hml hown hts hK hXl hl (lv_at hl 3 rfl) (lv_at hl 2 rfl) (lv_at hl 1 rfl) (lv_at hl 0 rfl) hX hbl hL hR (by omega) (by decide +kernel) tF mvX11_deep ll_66 (by decide) rfl tM mvX12_deep ll_69 (by decide) rfl hP1 hP2 hS (fun H1 q1 q2 q3 => kk B _ _ H1 c1 m1 v1 ⟨q1, q2, q3⟩)
set_option maxRecDepth 100000 in
theorem lcs_13 (C : lCtx D cA p s m args c ls bS L i xs) (hR : cells ≤ 600000 ∧ slots ≤ 7302250) (hn : n ≤ 1000) (hc : CS A σ) (hm : MS A τ) (hv : AV n A) (hM : lMm D cA s H σ τ) (kk : lNx l D cA p e s m args below meth c cells slots Q ls n) : W p l e room_1 s m args below meth c H [] cells slots Q (F0 m 579 ls []) := by
  obtain ⟨v, a, b, B, e1, e2, c1, m1, v1⟩ := p_later hc hm hv (xs (i + 1)) (xs (i + 1 + 1))
  obtain ⟨hx, hb, hml, hown, hts, hK, hXl, hl, hX, hbl, hL, hij⟩ := C
  obtain ⟨hP1, hP2, hS⟩ := hM
  have tF := T_X11_later (E := (l, D, s.heap.size, cA, lX s.heap.size)) (d := 5) (lX_E (Nat.le_refl _)) (Nat.le_refl _) (xs (i + 1)) (xs (i + 1 + 1)) σ (o := (v, a)) e1
  have tM := T_X12_later (E := (l, D, s.heap.size + 102, cA, lX s.heap.size)) (d := 5) (Nat.le_refl _) (xs (i + 1)) (xs (i + 1 + 1)) τ (o := (v, b)) e2
  exact lcase (a := 2) (pc := 579) (iF := 70) (iM := 73) (off := 518) (v := v) hx hb hml hown hts hK hXl hl (lv_at hl 3 rfl) (lv_at hl 2 rfl) (lv_at hl 1 rfl) (lv_at hl 0 rfl) hX hbl hL hR (by omega) (by decide +kernel) tF mvX11_later ll_70 (by decide) rfl tM mvX12_later ll_73 (by decide) rfl hP1 hP2 hS (fun H1 q1 q2 q3 => kk B _ _ H1 c1 m1 v1 ⟨q1, q2, q3⟩)
set_option maxRecDepth 100000 in
theorem lcs_14 (C : lCtx D cA p s m args c ls bS L i xs) (hR : cells ≤ 600000 ∧ slots ≤ 7302250) (hn : n ≤ 1000) (hc : CS A σ) (hm : MS A τ) (hv : AV n A) (hM : lMm D cA s H σ τ) (kk : lNx l D cA p e s m args below meth c cells slots Q ls n) : W p l e room_1 s m args below meth c H [] cells slots Q (F0 m 612 ls []) := by
  obtain ⟨v, a, b, B, e1, e2, c1, m1, v1⟩ := p_learns hc hm hv (xs (i + 1))
  obtain ⟨hx, hb, hml, hown, hts, hK, hXl, hl, hX, hbl, hL, hij⟩ := C
  obtain ⟨hP1, hP2, hS⟩ := hM
  have tF := T_X11_learns (E := (l, D, s.heap.size, cA, lX s.heap.size)) (d := 5) (lX_E (Nat.le_refl _)) (Nat.le_refl _) (xs (i + 1)) σ (o := (v, a)) e1
  have tM := T_X12_learns (E := (l, D, s.heap.size + 102, cA, lX s.heap.size)) (d := 5) (Nat.le_refl _) (xs (i + 1)) τ (o := (v, b)) e2
  exact lcase (a := 1) (pc := 612) (iF := 74) (iM := 77) (off := 495) (v := v) hx hb hml hown hts hK hXl hl (lv_at hl 3 rfl) (lv_at hl 2 rfl) (lv_at hl 1 rfl) (lv_at hl 0 rfl) hX hbl hL hR (by omega) (by decide +kernel) tF mvX11_learns ll_74 (by decide) rfl tM mvX12_learns ll_77 (by decide) rfl hP1 hP2 hS (fun H1 q1 q2 q3 => kk B _ _ H1 c1 m1 v1 ⟨q1, q2, q3⟩)
set_option maxRecDepth 100000 in
theorem lcs_15 (C : lCtx D cA p s m args c ls bS L i xs) (hR : cells ≤ 600000 ∧ slots ≤ 7302250) (hn : n ≤ 1000) (hc : CS A σ) (hm : MS A τ) (hv : AV n A) (hM : lMm D cA s H σ τ) (kk : lNx l D cA p e s m args below meth c cells slots Q ls n) : W p l e room_1 s m args below meth c H [] cells slots Q (F0 m 635 ls []) := by
  obtain ⟨v, a, b, B, e1, e2, c1, m1, v1⟩ := p_rests hc hm hv
  obtain ⟨hx, hb, hml, hown, hts, hK, hXl, hl, hX, hbl, hL, hij⟩ := C
  obtain ⟨hP1, hP2, hS⟩ := hM
  have tF := T_X11_rests (E := (l, D, s.heap.size, cA, lX s.heap.size)) (d := 5) (lX_E (Nat.le_refl _)) (Nat.le_refl _)  σ (o := (v, a)) e1
  have tM := T_X12_rests (E := (l, D, s.heap.size + 102, cA, lX s.heap.size)) (d := 5) (Nat.le_refl _)  τ (o := (v, b)) e2
  exact lcase (a := 0) (pc := 635) (iF := 78) (iM := 81) (off := 482) (v := v) hx hb hml hown hts hK hXl hl (lv_at hl 3 rfl) (lv_at hl 2 rfl) (lv_at hl 1 rfl) (lv_at hl 0 rfl) hX hbl hL hR (by omega) (by decide +kernel) tF mvX11_rests ll_78 (by decide) rfl tM mvX12_rests ll_81 (by decide) rfl hP1 hP2 hS (fun H1 q1 q2 q3 => kk B _ _ H1 c1 m1 v1 ⟨q1, q2, q3⟩)
set_option maxRecDepth 100000 in
theorem lcs_16 (C : lCtx D cA p s m args c ls bS L i xs) (hR : cells ≤ 600000 ∧ slots ≤ 7302250) (hn : n ≤ 1000) (hc : CS A σ) (hm : MS A τ) (hv : AV n A) (hM : lMm D cA s H σ τ) (kk : lNx l D cA p e s m args below meth c cells slots Q ls n) : W p l e room_1 s m args below meth c H [] cells slots Q (F0 m 648 ls []) := by
  obtain ⟨v, a, b, B, e1, e2, c1, m1, v1⟩ := p_hints hc hm hv (xs (i + 1))
  obtain ⟨hx, hb, hml, hown, hts, hK, hXl, hl, hX, hbl, hL, hij⟩ := C
  obtain ⟨hP1, hP2, hS⟩ := hM
  have tF := T_X11_hints (E := (l, D, s.heap.size, cA, lX s.heap.size)) (d := 5) (lX_E (Nat.le_refl _)) (Nat.le_refl _) (xs (i + 1)) σ (o := (v, a)) e1
  obtain ⟨gM, rfl⟩ := okm e2
  have tM := T_X12_hints (E := (l, D, s.heap.size + 102, cA, lX s.heap.size)) (d := 4) (Nat.le_refl _) (xs (i + 1)) τ gM
  exact lcase (a := 1) (pc := 648) (iF := 82) (iM := 85) (off := 459) (v := v) hx hb hml hown hts hK hXl hl (lv_at hl 3 rfl) (lv_at hl 2 rfl) (lv_at hl 1 rfl) (lv_at hl 0 rfl) hX hbl hL hR (by omega) (by decide +kernel) tF mvX11_hints ll_82 (by decide) rfl tM mvX12_hints ll_85 (by decide) rfl hP1 hP2 hS (fun H1 q1 q2 q3 => kk B _ _ H1 c1 m1 v1 ⟨q1, q2, q3⟩)
set_option maxRecDepth 100000 in
theorem lcs_17 (C : lCtx D cA p s m args c ls bS L i xs) (hR : cells ≤ 600000 ∧ slots ≤ 7302250) (hn : n ≤ 1000) (hc : CS A σ) (hm : MS A τ) (hv : AV n A) (hM : lMm D cA s H σ τ) (kk : lNx l D cA p e s m args below meth c cells slots Q ls n) : W p l e room_1 s m args below meth c H [] cells slots Q (F0 m 671 ls []) := by
  obtain ⟨v, a, b, B, e1, e2, c1, m1, v1⟩ := p_secret hc hm hv (xs (i + 1)) (xs (i + 1 + 1))
  obtain ⟨hx, hb, hml, hown, hts, hK, hXl, hl, hX, hbl, hL, hij⟩ := C
  obtain ⟨hP1, hP2, hS⟩ := hM
  have tF := T_X11_secret (E := (l, D, s.heap.size, cA, lX s.heap.size)) (d := 5) (lX_E (Nat.le_refl _)) (Nat.le_refl _) (xs (i + 1)) (xs (i + 1 + 1)) σ (o := (v, a)) e1
  obtain ⟨gM, rfl⟩ := okm e2
  have tM := T_X12_secret (E := (l, D, s.heap.size + 102, cA, lX s.heap.size)) (d := 4) (Nat.le_refl _) (xs (i + 1)) (xs (i + 1 + 1)) τ gM
  exact lcase (a := 2) (pc := 671) (iF := 86) (iM := 89) (off := 426) (v := v) hx hb hml hown hts hK hXl hl (lv_at hl 3 rfl) (lv_at hl 2 rfl) (lv_at hl 1 rfl) (lv_at hl 0 rfl) hX hbl hL hR (by omega) (by decide +kernel) tF mvX11_secret ll_86 (by decide) rfl tM mvX12_secret ll_89 (by decide) rfl hP1 hP2 hS (fun H1 q1 q2 q3 => kk B _ _ H1 c1 m1 v1 ⟨q1, q2, q3⟩)
set_option maxRecDepth 100000 in
theorem lcs_18 (C : lCtx D cA p s m args c ls bS L i xs) (hR : cells ≤ 600000 ∧ slots ≤ 7302250) (hn : n ≤ 1000) (hc : CS A σ) (hm : MS A τ) (hv : AV n A) (hM : lMm D cA s H σ τ) (kk : lNx l D cA p e s m args below meth c cells slots Q ls n) : W p l e room_1 s m args below meth c H [] cells slots Q (F0 m 704 ls []) := by
  obtain ⟨v, a, b, B, e1, e2, c1, m1, v1⟩ := p_speaker hc hm hv (xs (i + 1))
  obtain ⟨hx, hb, hml, hown, hts, hK, hXl, hl, hX, hbl, hL, hij⟩ := C
  obtain ⟨hP1, hP2, hS⟩ := hM
  obtain ⟨gF, rfl⟩ := okm e1
  have tF := T_X11_speaker (E := (l, D, s.heap.size, cA, lX s.heap.size)) (d := 3) (lX_E (Nat.le_refl _)) (Nat.le_refl _) (xs (i + 1)) σ gF
  have tM := T_X12_speaker (E := (l, D, s.heap.size + 102, cA, lX s.heap.size)) (d := 3) (Nat.le_refl _) (xs (i + 1)) τ (o := (v, b)) e2
  exact lcase (a := 1) (pc := 704) (iF := 90) (iM := 93) (off := 403) (v := v) hx hb hml hown hts hK hXl hl (lv_at hl 3 rfl) (lv_at hl 2 rfl) (lv_at hl 1 rfl) (lv_at hl 0 rfl) hX hbl hL hR (by omega) (by decide +kernel) tF mvX11_speaker ll_90 (by decide) rfl tM mvX12_speaker ll_93 (by decide) rfl hP1 hP2 hS (fun H1 q1 q2 q3 => kk B _ _ H1 c1 m1 v1 ⟨q1, q2, q3⟩)
set_option maxRecDepth 100000 in
theorem lcs_19 (C : lCtx D cA p s m args c ls bS L i xs) (hR : cells ≤ 600000 ∧ slots ≤ 7302250) (hn : n ≤ 1000) (hc : CS A σ) (hm : MS A τ) (hv : AV n A) (hM : lMm D cA s H σ τ) (kk : lNx l D cA p e s m args below meth c cells slots Q ls n) : W p l e room_1 s m args below meth c H [] cells slots Q (F0 m 727 ls []) := by
  obtain ⟨v, a, b, B, e1, e2, c1, m1, v1⟩ := p_slowest hc hm hv (xs (i + 1)) (xs (i + 1 + 1))
  obtain ⟨hx, hb, hml, hown, hts, hK, hXl, hl, hX, hbl, hL, hij⟩ := C
  obtain ⟨hP1, hP2, hS⟩ := hM
  have tF := T_X11_slowest (E := (l, D, s.heap.size, cA, lX s.heap.size)) (d := 5) (lX_E (Nat.le_refl _)) (Nat.le_refl _) (xs (i + 1)) (xs (i + 1 + 1)) σ (o := (v, a)) e1
  obtain ⟨gM, rfl⟩ := okm e2
  have tM := T_X12_slowest (E := (l, D, s.heap.size + 102, cA, lX s.heap.size)) (d := 2) (Nat.le_refl _) (xs (i + 1)) (xs (i + 1 + 1)) τ gM
  exact lcase (a := 2) (pc := 727) (iF := 94) (iM := 97) (off := 370) (v := v) hx hb hml hown hts hK hXl hl (lv_at hl 3 rfl) (lv_at hl 2 rfl) (lv_at hl 1 rfl) (lv_at hl 0 rfl) hX hbl hL hR (by omega) (by decide +kernel) tF mvX11_slowest ll_94 (by decide) rfl tM mvX12_slowest ll_97 (by decide) rfl hP1 hP2 hS (fun H1 q1 q2 q3 => kk B _ _ H1 c1 m1 v1 ⟨q1, q2, q3⟩)
set_option maxRecDepth 100000 in
theorem lcs_20 (C : lCtx D cA p s m args c ls bS L i xs) (hR : cells ≤ 600000 ∧ slots ≤ 7302250) (hn : n ≤ 1000) (hc : CS A σ) (hm : MS A τ) (hv : AV n A) (hM : lMm D cA s H σ τ) (kk : lNx l D cA p e s m args below meth c cells slots Q ls n) : W p l e room_1 s m args below meth c H [] cells slots Q (F0 m 760 ls []) := by
  obtain ⟨v, a, b, B, e1, e2, c1, m1, v1⟩ := p_odds hc hm hv (xs (i + 1)) (xs (i + 1 + 1))
  obtain ⟨hx, hb, hml, hown, hts, hK, hXl, hl, hX, hbl, hL, hij⟩ := C
  obtain ⟨hP1, hP2, hS⟩ := hM
  have tF := T_X11_odds (E := (l, D, s.heap.size, cA, lX s.heap.size)) (d := 5) (lX_E (Nat.le_refl _)) (Nat.le_refl _) (xs (i + 1)) (xs (i + 1 + 1)) σ (o := (v, a)) e1
  obtain ⟨gM, rfl⟩ := okm e2
  have tM := T_X12_odds (E := (l, D, s.heap.size + 102, cA, lX s.heap.size)) (d := 2) (Nat.le_refl _) (xs (i + 1)) (xs (i + 1 + 1)) τ gM
  exact lcase (a := 2) (pc := 760) (iF := 98) (iM := 101) (off := 337) (v := v) hx hb hml hown hts hK hXl hl (lv_at hl 3 rfl) (lv_at hl 2 rfl) (lv_at hl 1 rfl) (lv_at hl 0 rfl) hX hbl hL hR (by omega) (by decide +kernel) tF mvX11_odds ll_98 (by decide) rfl tM mvX12_odds ll_101 (by decide) rfl hP1 hP2 hS (fun H1 q1 q2 q3 => kk B _ _ H1 c1 m1 v1 ⟨q1, q2, q3⟩)
set_option maxRecDepth 100000 in
theorem lcs_21 (C : lCtx D cA p s m args c ls bS L i xs) (hR : cells ≤ 600000 ∧ slots ≤ 7302250) (hn : n ≤ 1000) (hc : CS A σ) (hm : MS A τ) (hv : AV n A) (hM : lMm D cA s H σ τ) (kk : lNx l D cA p e s m args below meth c cells slots Q ls n) : W p l e room_1 s m args below meth c H [] cells slots Q (F0 m 793 ls []) := by
  obtain ⟨v, a, b, B, e1, e2, c1, m1, v1⟩ := p_hear hc hm hv
  obtain ⟨hx, hb, hml, hown, hts, hK, hXl, hl, hX, hbl, hL, hij⟩ := C
  obtain ⟨hP1, hP2, hS⟩ := hM
  have tF := T_X11_hear (E := (l, D, s.heap.size, cA, lX s.heap.size)) (d := 2) (lX_E (Nat.le_refl _)) (Nat.le_refl _)  σ (o := (v, a)) e1
  have tM := T_X12_hear (E := (l, D, s.heap.size + 102, cA, lX s.heap.size)) (d := 2) (Nat.le_refl _)  τ (o := (v, b)) e2
  exact lcase (a := 0) (pc := 793) (iF := 102) (iM := 105) (off := 324) (v := v) hx hb hml hown hts hK hXl hl (lv_at hl 3 rfl) (lv_at hl 2 rfl) (lv_at hl 1 rfl) (lv_at hl 0 rfl) hX hbl hL hR (by omega) (by decide +kernel) tF mvX11_hear ll_102 (by decide) rfl tM mvX12_hear ll_105 (by decide) rfl hP1 hP2 hS (fun H1 q1 q2 q3 => kk B _ _ H1 c1 m1 v1 ⟨q1, q2, q3⟩)
set_option maxRecDepth 100000 in
theorem lcs_22 (C : lCtx D cA p s m args c ls bS L i xs) (hR : cells ≤ 600000 ∧ slots ≤ 7302250) (hn : n ≤ 1000) (hc : CS A σ) (hm : MS A τ) (hv : AV n A) (hM : lMm D cA s H σ τ) (kk : lNx l D cA p e s m args below meth c cells slots Q ls n) : W p l e room_1 s m args below meth c H [] cells slots Q (F0 m 806 ls []) := by
  obtain ⟨v, a, b, B, e1, e2, c1, m1, v1⟩ := p_fits hc hm hv (xs (i + 1))
  obtain ⟨hx, hb, hml, hown, hts, hK, hXl, hl, hX, hbl, hL, hij⟩ := C
  obtain ⟨hP1, hP2, hS⟩ := hM
  have tF := T_X11_fits (E := (l, D, s.heap.size, cA, lX s.heap.size)) (d := 6) (lX_E (Nat.le_refl _)) (Nat.le_refl _) (xs (i + 1)) σ (o := (v, a)) e1
  obtain ⟨gM, rfl⟩ := okm e2
  have tM := T_X12_fits (E := (l, D, s.heap.size + 102, cA, lX s.heap.size)) (d := 2) (Nat.le_refl _) (xs (i + 1)) τ gM
  exact lcase (a := 1) (pc := 806) (iF := 106) (iM := 109) (off := 301) (v := v) hx hb hml hown hts hK hXl hl (lv_at hl 3 rfl) (lv_at hl 2 rfl) (lv_at hl 1 rfl) (lv_at hl 0 rfl) hX hbl hL hR (by omega) (by decide +kernel) tF mvX11_fits ll_106 (by decide) rfl tM mvX12_fits ll_109 (by decide) rfl hP1 hP2 hS (fun H1 q1 q2 q3 => kk B _ _ H1 c1 m1 v1 ⟨q1, q2, q3⟩)
set_option maxRecDepth 100000 in
theorem lcs_23 (C : lCtx D cA p s m args c ls bS L i xs) (hR : cells ≤ 600000 ∧ slots ≤ 7302250) (hn : n ≤ 1000) (hc : CS A σ) (hm : MS A τ) (hv : AV n A) (hM : lMm D cA s H σ τ) (kk : lNx l D cA p e s m args below meth c cells slots Q ls n) : W p l e room_1 s m args below meth c H [] cells slots Q (F0 m 829 ls []) := by
  obtain ⟨v, a, b, B, e1, e2, c1, m1, v1⟩ := p_could hc hm hv (xs (i + 1))
  obtain ⟨hx, hb, hml, hown, hts, hK, hXl, hl, hX, hbl, hL, hij⟩ := C
  obtain ⟨hP1, hP2, hS⟩ := hM
  have tF := T_X11_could (E := (l, D, s.heap.size, cA, lX s.heap.size)) (d := 6) (lX_E (Nat.le_refl _)) (Nat.le_refl _) (xs (i + 1)) σ (o := (v, a)) e1
  obtain ⟨gM, rfl⟩ := okm e2
  have tM := T_X12_could (E := (l, D, s.heap.size + 102, cA, lX s.heap.size)) (d := 2) (Nat.le_refl _) (xs (i + 1)) τ gM
  exact lcase (a := 1) (pc := 829) (iF := 110) (iM := 113) (off := 278) (v := v) hx hb hml hown hts hK hXl hl (lv_at hl 3 rfl) (lv_at hl 2 rfl) (lv_at hl 1 rfl) (lv_at hl 0 rfl) hX hbl hL hR (by omega) (by decide +kernel) tF mvX11_could ll_110 (by decide) rfl tM mvX12_could ll_113 (by decide) rfl hP1 hP2 hS (fun H1 q1 q2 q3 => kk B _ _ H1 c1 m1 v1 ⟨q1, q2, q3⟩)
set_option maxRecDepth 100000 in
theorem lcs_24 (C : lCtx D cA p s m args c ls bS L i xs) (hR : cells ≤ 600000 ∧ slots ≤ 7302250) (hn : n ≤ 1000) (hc : CS A σ) (hm : MS A τ) (hv : AV n A) (hM : lMm D cA s H σ τ) (kk : lNx l D cA p e s m args below meth c cells slots Q ls n) : W p l e room_1 s m args below meth c H [] cells slots Q (F0 m 852 ls []) := by
  obtain ⟨v, a, b, B, e1, e2, c1, m1, v1⟩ := p_tells hc hm hv (xs (i + 1))
  obtain ⟨hx, hb, hml, hown, hts, hK, hXl, hl, hX, hbl, hL, hij⟩ := C
  obtain ⟨hP1, hP2, hS⟩ := hM
  have tF := T_X11_tells (E := (l, D, s.heap.size, cA, lX s.heap.size)) (d := 6) (lX_E (Nat.le_refl _)) (Nat.le_refl _) (xs (i + 1)) σ (o := (v, a)) e1
  obtain ⟨gM, rfl⟩ := okm e2
  have tM := T_X12_tells (E := (l, D, s.heap.size + 102, cA, lX s.heap.size)) (d := 3) (Nat.le_refl _) (xs (i + 1)) τ gM
  exact lcase (a := 1) (pc := 852) (iF := 114) (iM := 117) (off := 255) (v := v) hx hb hml hown hts hK hXl hl (lv_at hl 3 rfl) (lv_at hl 2 rfl) (lv_at hl 1 rfl) (lv_at hl 0 rfl) hX hbl hL hR (by omega) (by decide +kernel) tF mvX11_tells ll_114 (by decide) rfl tM mvX12_tells ll_117 (by decide) rfl hP1 hP2 hS (fun H1 q1 q2 q3 => kk B _ _ H1 c1 m1 v1 ⟨q1, q2, q3⟩)
set_option maxRecDepth 100000 in
theorem lcs_25 (C : lCtx D cA p s m args c ls bS L i xs) (hR : cells ≤ 600000 ∧ slots ≤ 7302250) (hn : n ≤ 1000) (hc : CS A σ) (hm : MS A τ) (hv : AV n A) (hM : lMm D cA s H σ τ) (kk : lNx l D cA p e s m args below meth c cells slots Q ls n) : W p l e room_1 s m args below meth c H [] cells slots Q (F0 m 875 ls []) := by
  obtain ⟨v, a, b, B, e1, e2, c1, m1, v1⟩ := p_round hn hc hm hv
  obtain ⟨hx, hb, hml, hown, hts, hK, hXl, hl, hX, hbl, hL, hij⟩ := C
  obtain ⟨hP1, hP2, hS⟩ := hM
  have tF := T_X11_round (E := (l, D, s.heap.size, cA, lX s.heap.size)) (d := 6) (lX_E (Nat.le_refl _)) (Nat.le_refl _)  σ (o := (v, a)) e1
  have tM := T_X12_round (E := (l, D, s.heap.size + 102, cA, lX s.heap.size)) (d := 5) (Nat.le_refl _)  τ (o := (v, b)) e2
  exact lcase (a := 0) (pc := 875) (iF := 118) (iM := 121) (off := 242) (v := v) hx hb hml hown hts hK hXl hl (lv_at hl 3 rfl) (lv_at hl 2 rfl) (lv_at hl 1 rfl) (lv_at hl 0 rfl) hX hbl hL hR (by omega) (by decide +kernel) tF mvX11_round ll_118 (by decide) rfl tM mvX12_round ll_121 (by decide) rfl hP1 hP2 hS (fun H1 q1 q2 q3 => kk B _ _ H1 c1 m1 v1 ⟨q1, q2, q3⟩)
set_option maxRecDepth 100000 in
theorem lcs_26 (C : lCtx D cA p s m args c ls bS L i xs) (hR : cells ≤ 600000 ∧ slots ≤ 7302250) (hn : n ≤ 1000) (hc : CS A σ) (hm : MS A τ) (hv : AV n A) (hM : lMm D cA s H σ τ) (kk : lNx l D cA p e s m args below meth c cells slots Q ls n) : W p l e room_1 s m args below meth c H [] cells slots Q (F0 m 888 ls []) := by
  obtain ⟨v, a, b, B, e1, e2, c1, m1, v1⟩ := p_says hn hc hm hv (xs (i + 1))
  obtain ⟨hx, hb, hml, hown, hts, hK, hXl, hl, hX, hbl, hL, hij⟩ := C
  obtain ⟨hP1, hP2, hS⟩ := hM
  have tF := T_X11_says (E := (l, D, s.heap.size, cA, lX s.heap.size)) (d := 5) (lX_E (Nat.le_refl _)) (Nat.le_refl _) (xs (i + 1)) σ (o := (v, a)) e1
  have tM := T_X12_says (E := (l, D, s.heap.size + 102, cA, lX s.heap.size)) (d := 4) (Nat.le_refl _) (xs (i + 1)) τ (o := (v, b)) e2
  exact lcase (a := 1) (pc := 888) (iF := 122) (iM := 125) (off := 219) (v := v) hx hb hml hown hts hK hXl hl (lv_at hl 3 rfl) (lv_at hl 2 rfl) (lv_at hl 1 rfl) (lv_at hl 0 rfl) hX hbl hL hR (by omega) (by decide +kernel) tF mvX11_says ll_122 (by decide) rfl tM mvX12_says ll_125 (by decide) rfl hP1 hP2 hS (fun H1 q1 q2 q3 => kk B _ _ H1 c1 m1 v1 ⟨q1, q2, q3⟩)
set_option maxRecDepth 100000 in
theorem lcs_27 (C : lCtx D cA p s m args c ls bS L i xs) (hR : cells ≤ 600000 ∧ slots ≤ 7302250) (hn : n ≤ 1000) (hc : CS A σ) (hm : MS A τ) (hv : AV n A) (hM : lMm D cA s H σ τ) (kk : lNx l D cA p e s m args below meth c cells slots Q ls n) : W p l e room_1 s m args below meth c H [] cells slots Q (F0 m 911 ls []) := by
  obtain ⟨v, a, b, B, e1, e2, c1, m1, v1⟩ := p_tell hn hc hm hv (xs (i + 1))
  obtain ⟨hx, hb, hml, hown, hts, hK, hXl, hl, hX, hbl, hL, hij⟩ := C
  obtain ⟨hP1, hP2, hS⟩ := hM
  have tF := T_X11_tell (E := (l, D, s.heap.size, cA, lX s.heap.size)) (d := 5) (lX_E (Nat.le_refl _)) (Nat.le_refl _) (xs (i + 1)) σ (o := (v, a)) e1
  have tM := T_X12_tell (E := (l, D, s.heap.size + 102, cA, lX s.heap.size)) (d := 2) (Nat.le_refl _) (xs (i + 1)) τ (o := (v, b)) e2
  exact lcase (a := 1) (pc := 911) (iF := 126) (iM := 129) (off := 196) (v := v) hx hb hml hown hts hK hXl hl (lv_at hl 3 rfl) (lv_at hl 2 rfl) (lv_at hl 1 rfl) (lv_at hl 0 rfl) hX hbl hL hR (by omega) (by decide +kernel) tF mvX11_tell ll_126 (by decide) rfl tM mvX12_tell ll_129 (by decide) rfl hP1 hP2 hS (fun H1 q1 q2 q3 => kk B _ _ H1 c1 m1 v1 ⟨q1, q2, q3⟩)
set_option maxRecDepth 100000 in
theorem lcs_28 (C : lCtx D cA p s m args c ls bS L i xs) (hR : cells ≤ 600000 ∧ slots ≤ 7302250) (hn : n ≤ 1000) (hc : CS A σ) (hm : MS A τ) (hv : AV n A) (hM : lMm D cA s H σ τ) (kk : lNx l D cA p e s m args below meth c cells slots Q ls n) : W p l e room_1 s m args below meth c H [] cells slots Q (F0 m 934 ls []) := by
  obtain ⟨v, a, b, B, e1, e2, c1, m1, v1⟩ := p_wear hc hm hv (xs (i + 1)) (xs (i + 1 + 1))
  obtain ⟨hx, hb, hml, hown, hts, hK, hXl, hl, hX, hbl, hL, hij⟩ := C
  obtain ⟨hP1, hP2, hS⟩ := hM
  have tF := T_X11_wear (E := (l, D, s.heap.size, cA, lX s.heap.size)) (d := 5) (lX_E (Nat.le_refl _)) (Nat.le_refl _) (xs (i + 1)) (xs (i + 1 + 1)) σ (o := (v, a)) e1
  have tM := T_X12_wear (E := (l, D, s.heap.size + 102, cA, lX s.heap.size)) (d := 3) (Nat.le_refl _) (xs (i + 1)) (xs (i + 1 + 1)) τ (o := (v, b)) e2
  exact lcase (a := 2) (pc := 934) (iF := 130) (iM := 134) (off := 163) (v := (fhb v)) hx hb hml hown hts hK hXl hl (lv_at hl 3 rfl) (lv_at hl 2 rfl) (lv_at hl 1 rfl) (lv_at hl 0 rfl) hX hbl hL hR (by omega) (by decide +kernel) tF mvX11_wear ll_130 (by decide) rfl tM mvX12_wear ll_134 (by decide) rfl hP1 hP2 hS (fun H1 q1 q2 q3 => kk B _ _ H1 c1 m1 v1 ⟨q1, q2, q3⟩)
set_option maxRecDepth 100000 in
theorem lcs_29 (C : lCtx D cA p s m args c ls bS L i xs) (hR : cells ≤ 600000 ∧ slots ≤ 7302250) (hn : n ≤ 1000) (hc : CS A σ) (hm : MS A τ) (hv : AV n A) (hM : lMm D cA s H σ τ) (kk : lNx l D cA p e s m args below meth c cells slots Q ls n) : W p l e room_1 s m args below meth c H [] cells slots Q (F0 m 967 ls []) := by
  obtain ⟨v, a, b, B, e1, e2, c1, m1, v1⟩ := p_chance hn hc hm hv (xs (i + 1))
  obtain ⟨hx, hb, hml, hown, hts, hK, hXl, hl, hX, hbl, hL, hij⟩ := C
  obtain ⟨hP1, hP2, hS⟩ := hM
  have tF := T_X11_chance (E := (l, D, s.heap.size, cA, lX s.heap.size)) (d := 6) (lX_E (Nat.le_refl _)) (Nat.le_refl _) (xs (i + 1)) σ (o := (v, a)) e1
  have tM := T_X12_chance (E := (l, D, s.heap.size + 102, cA, lX s.heap.size)) (d := 5) (Nat.le_refl _) (xs (i + 1)) τ (o := (v, b)) e2
  exact lcase (a := 1) (pc := 967) (iF := 135) (iM := 138) (off := 140) (v := v) hx hb hml hown hts hK hXl hl (lv_at hl 3 rfl) (lv_at hl 2 rfl) (lv_at hl 1 rfl) (lv_at hl 0 rfl) hX hbl hL hR (by omega) (by decide +kernel) tF mvX11_chance ll_135 (by decide) rfl tM mvX12_chance ll_138 (by decide) rfl hP1 hP2 hS (fun H1 q1 q2 q3 => kk B _ _ H1 c1 m1 v1 ⟨q1, q2, q3⟩)
set_option maxRecDepth 100000 in
theorem lcs_30 (C : lCtx D cA p s m args c ls bS L i xs) (hR : cells ≤ 600000 ∧ slots ≤ 7302250) (hn : n ≤ 1000) (hc : CS A σ) (hm : MS A τ) (hv : AV n A) (hM : lMm D cA s H σ τ) (kk : lNx l D cA p e s m args below meth c cells slots Q ls n) : W p l e room_1 s m args below meth c H [] cells slots Q (F0 m 990 ls []) := by
  obtain ⟨v, a, b, B, e1, e2, c1, m1, v1⟩ := p_deal hc hm hv
  obtain ⟨hx, hb, hml, hown, hts, hK, hXl, hl, hX, hbl, hL, hij⟩ := C
  obtain ⟨hP1, hP2, hS⟩ := hM
  have tF := T_X11_deal (E := (l, D, s.heap.size, cA, lX s.heap.size)) (d := 5) (lX_E (Nat.le_refl _)) (Nat.le_refl _)  σ (o := (v, a)) e1
  have tM := T_X12_deal (E := (l, D, s.heap.size + 102, cA, lX s.heap.size)) (d := 2) (Nat.le_refl _)  τ (o := (v, b)) e2
  exact lcase (a := 0) (pc := 990) (iF := 139) (iM := 142) (off := 127) (v := v) hx hb hml hown hts hK hXl hl (lv_at hl 3 rfl) (lv_at hl 2 rfl) (lv_at hl 1 rfl) (lv_at hl 0 rfl) hX hbl hL hR (by omega) (by decide +kernel) tF mvX11_deal ll_139 (by decide) rfl tM mvX12_deal ll_142 (by decide) rfl hP1 hP2 hS (fun H1 q1 q2 q3 => kk B _ _ H1 c1 m1 v1 ⟨q1, q2, q3⟩)
set_option maxRecDepth 100000 in
theorem lcs_31 (C : lCtx D cA p s m args c ls bS L i xs) (hR : cells ≤ 600000 ∧ slots ≤ 7302250) (hn : n ≤ 1000) (hc : CS A σ) (hm : MS A τ) (hv : AV n A) (hM : lMm D cA s H σ τ) (kk : lNx l D cA p e s m args below meth c cells slots Q ls n) : W p l e room_1 s m args below meth c H [] cells slots Q (F0 m 1003 ls []) := by
  obtain ⟨v, a, b, B, e1, e2, c1, m1, v1⟩ := p_undo hc hm hv
  obtain ⟨hx, hb, hml, hown, hts, hK, hXl, hl, hX, hbl, hL, hij⟩ := C
  obtain ⟨hP1, hP2, hS⟩ := hM
  have tF := T_X11_undo (E := (l, D, s.heap.size, cA, lX s.heap.size)) (d := 5) (lX_E (Nat.le_refl _)) (Nat.le_refl _)  σ (o := (v, a)) e1
  have tM := T_X12_undo (E := (l, D, s.heap.size + 102, cA, lX s.heap.size)) (d := 0) (Nat.le_refl _)  τ (o := (v, b)) e2
  exact lcase (a := 0) (pc := 1003) (iF := 143) (iM := 147) (off := 114) (v := (fhb v)) hx hb hml hown hts hK hXl hl (lv_at hl 3 rfl) (lv_at hl 2 rfl) (lv_at hl 1 rfl) (lv_at hl 0 rfl) hX hbl hL hR (by omega) (by decide +kernel) tF mvX11_undo ll_143 (by decide) rfl tM mvX12_undo ll_147 (by decide) rfl hP1 hP2 hS (fun H1 q1 q2 q3 => kk B _ _ H1 c1 m1 v1 ⟨q1, q2, q3⟩)
set_option maxRecDepth 100000 in
theorem lcs_32 (C : lCtx D cA p s m args c ls bS L i xs) (hR : cells ≤ 600000 ∧ slots ≤ 7302250) (hn : n ≤ 1000) (hc : CS A σ) (hm : MS A τ) (hv : AV n A) (hM : lMm D cA s H σ τ) (kk : lNx l D cA p e s m args below meth c cells slots Q ls n) : W p l e room_1 s m args below meth c H [] cells slots Q (F0 m 1016 ls []) := by
  obtain ⟨v, a, b, B, e1, e2, c1, m1, v1⟩ := p_seed hc hm hv (xs (i + 1))
  obtain ⟨hx, hb, hml, hown, hts, hK, hXl, hl, hX, hbl, hL, hij⟩ := C
  obtain ⟨hP1, hP2, hS⟩ := hM
  have gF := Option.some.inj e1
  have tF := T_X11_seed (E := (l, D, s.heap.size, cA, lX s.heap.size)) (d := 2) (lX_E (Nat.le_refl _)) (Nat.le_refl _) (xs (i + 1)) σ
  rw [gF] at tF
  have tM := T_X12_seed (E := (l, D, s.heap.size + 102, cA, lX s.heap.size)) (d := 1) (Nat.le_refl _) (xs (i + 1)) τ (o := (v, b)) e2
  exact lcase (a := 1) (pc := 1016) (iF := 148) (iM := 151) (off := 91) (v := (fhb v)) hx hb hml hown hts hK hXl hl (lv_at hl 3 rfl) (lv_at hl 2 rfl) (lv_at hl 1 rfl) (lv_at hl 0 rfl) hX hbl hL hR (by omega) (by decide +kernel) tF mvX11_seed ll_148 (by decide) rfl tM mvX12_seed ll_151 (by decide) rfl hP1 hP2 hS (fun H1 q1 q2 q3 => kk B _ _ H1 c1 m1 v1 ⟨q1, q2, q3⟩)
set_option maxRecDepth 100000 in
theorem lcs_34 (C : lCtx D cA p s m args c ls bS L i xs) (hR : cells ≤ 600000 ∧ slots ≤ 7302250) (hn : n ≤ 1000) (hc : CS A σ) (hm : MS A τ) (hv : AV n A) (hM : lMm D cA s H σ τ) (kk : lNx l D cA p e s m args below meth c cells slots Q ls n) : W p l e room_1 s m args below meth c H [] cells slots Q (F0 m 1053 ls []) := by
  obtain ⟨v, a, b, B, e1, e2, c1, m1, v1⟩ := p_image hc hm hv
  obtain ⟨hx, hb, hml, hown, hts, hK, hXl, hl, hX, hbl, hL, hij⟩ := C
  obtain ⟨hP1, hP2, hS⟩ := hM
  have tF := T_X11_image (E := (l, D, s.heap.size, cA, lX s.heap.size)) (d := 2) (lX_E (Nat.le_refl _)) (Nat.le_refl _)  σ (o := (v, a)) e1
  have tM := T_X12_image (E := (l, D, s.heap.size + 102, cA, lX s.heap.size)) (d := 2) (Nat.le_refl _)  τ (o := (v, b)) e2
  exact lcase (a := 0) (pc := 1053) (iF := 157) (iM := 160) (off := 64) (v := v) hx hb hml hown hts hK hXl hl (lv_at hl 3 rfl) (lv_at hl 2 rfl) (lv_at hl 1 rfl) (lv_at hl 0 rfl) hX hbl hL hR (by omega) (by decide +kernel) tF mvX11_image ll_157 (by decide) rfl tM mvX12_image ll_160 (by decide) rfl hP1 hP2 hS (fun H1 q1 q2 q3 => kk B _ _ H1 c1 m1 v1 ⟨q1, q2, q3⟩)
set_option maxRecDepth 100000 in
theorem lcs_35 (C : lCtx D cA p s m args c ls bS L i xs) (hR : cells ≤ 600000 ∧ slots ≤ 7302250) (hn : n ≤ 1000) (hc : CS A σ) (hm : MS A τ) (hv : AV n A) (hM : lMm D cA s H σ τ) (kk : lNx l D cA p e s m args below meth c cells slots Q ls n) : W p l e room_1 s m args below meth c H [] cells slots Q (F0 m 1066 ls []) := by
  obtain ⟨v, a, b, B, e1, e2, c1, m1, v1⟩ := p_octet hc hm hv (xs (i + 1))
  obtain ⟨hx, hb, hml, hown, hts, hK, hXl, hl, hX, hbl, hL, hij⟩ := C
  obtain ⟨hP1, hP2, hS⟩ := hM
  obtain ⟨gF, rfl⟩ := okcc e1
  have tF := T_X11_octet (E := (l, D, s.heap.size, cA, lX s.heap.size)) (d := 1) (lX_E (Nat.le_refl _)) (Nat.le_refl _) (xs (i + 1)) σ
  rw [gF] at tF
  obtain ⟨gM, rfl⟩ := okm e2
  have tM := T_X12_octet (E := (l, D, s.heap.size + 102, cA, lX s.heap.size)) (d := 0) (Nat.le_refl _) (xs (i + 1)) τ gM
  exact lcase (a := 1) (pc := 1066) (iF := 161) (iM := 164) (off := 41) (v := v) hx hb hml hown hts hK hXl hl (lv_at hl 3 rfl) (lv_at hl 2 rfl) (lv_at hl 1 rfl) (lv_at hl 0 rfl) hX hbl hL hR (by omega) (by decide +kernel) tF mvX11_octet ll_161 (by decide) rfl tM mvX12_octet ll_164 (by decide) rfl hP1 hP2 hS (fun H1 q1 q2 q3 => kk B _ _ H1 c1 m1 v1 ⟨q1, q2, q3⟩)
set_option maxRecDepth 100000 in
theorem lcs_36 (C : lCtx D cA p s m args c ls bS L i xs) (hR : cells ≤ 600000 ∧ slots ≤ 7302250) (hn : n ≤ 1000) (hc : CS A σ) (hm : MS A τ) (hv : AV n A) (hM : lMm D cA s H σ τ) (kk : lNx l D cA p e s m args below meth c cells slots Q ls n) : W p l e room_1 s m args below meth c H [] cells slots Q (F0 m 1089 ls []) := by
  obtain ⟨v, a, b, B, e1, e2, c1, m1, v1⟩ := p_on hc hm hv
  obtain ⟨hx, hb, hml, hown, hts, hK, hXl, hl, hX, hbl, hL, hij⟩ := C
  obtain ⟨hP1, hP2, hS⟩ := hM
  have tF := T_X11_on (E := (l, D, s.heap.size, cA, lX s.heap.size)) (d := 4) (lX_E (Nat.le_refl _)) (Nat.le_refl _)  σ (o := (v, a)) e1
  have tM := T_X12_on (E := (l, D, s.heap.size + 102, cA, lX s.heap.size)) (d := 2) (Nat.le_refl _)  τ (o := (v, b)) e2
  exact lcase (a := 0) (pc := 1089) (iF := 165) (iM := 168) (off := 28) (v := (fhb v)) hx hb hml hown hts hK hXl hl (lv_at hl 3 rfl) (lv_at hl 2 rfl) (lv_at hl 1 rfl) (lv_at hl 0 rfl) hX hbl hL hR (by omega) (by decide +kernel) tF mvX11_on ll_165 (by decide) rfl tM mvX12_on ll_168 (by decide) rfl hP1 hP2 hS (fun H1 q1 q2 q3 => kk B _ _ H1 c1 m1 v1 ⟨q1, q2, q3⟩)
set_option maxRecDepth 100000 in
theorem lcs_37 (C : lCtx D cA p s m args c ls bS L i xs) (hR : cells ≤ 600000 ∧ slots ≤ 7302250) (hn : n ≤ 1000) (hc : CS A σ) (hm : MS A τ) (hv : AV n A) (hM : lMm D cA s H σ τ) (kk : lNx l D cA p e s m args below meth c cells slots Q ls n) : W p l e room_1 s m args below meth c H [] cells slots Q (F0 m 1102 ls []) := by
  obtain ⟨v, a, b, B, e1, e2, c1, m1, v1⟩ := p_status hc hm hv (xs (i + 1))
  obtain ⟨hx, hb, hml, hown, hts, hK, hXl, hl, hX, hbl, hL, hij⟩ := C
  obtain ⟨hP1, hP2, hS⟩ := hM
  obtain ⟨gF, rfl⟩ := okcc e1
  have tF := T_X11_status (E := (l, D, s.heap.size, cA, lX s.heap.size)) (d := 1) (lX_E (Nat.le_refl _)) (Nat.le_refl _) (xs (i + 1)) σ
  rw [gF] at tF
  obtain ⟨gM, rfl⟩ := okm e2
  have tM := T_X12_status (E := (l, D, s.heap.size + 102, cA, lX s.heap.size)) (d := 1) (Nat.le_refl _) (xs (i + 1)) τ gM
  exact lcase (a := 1) (pc := 1102) (iF := 169) (iM := 172) (off := 5) (v := v) hx hb hml hown hts hK hXl hl (lv_at hl 3 rfl) (lv_at hl 2 rfl) (lv_at hl 1 rfl) (lv_at hl 0 rfl) hX hbl hL hR (by omega) (by decide +kernel) tF mvX11_status ll_169 (by decide) rfl tM mvX12_status ll_172 (by decide) rfl hP1 hP2 hS (fun H1 q1 q2 q3 => kk B _ _ H1 c1 m1 v1 ⟨q1, q2, q3⟩)
end
