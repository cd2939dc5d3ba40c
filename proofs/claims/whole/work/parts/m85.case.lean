/-! THE LAW: one case's arguments, one case -/
def lav (xs : Nat → Int32) (i : Nat) : Nat → Nat → List Value
  | 0, _ => []
  | a + 1, j => .int (xs (i + j)) :: lav xs i a (j + 1)
theorem lav_len (xs : Nat → Int32) (i : Nat) : ∀ a j, (lav xs i a j).length = a
  | 0, _ => rfl
  | a + 1, j => by
    show (lav xs i a (j + 1)).length + 1 = a + 1
    rw [lav_len xs i a (j + 1)]
theorem lav_cs (b : Nat) (xs : Nat → Int32) (i : Nat) : ∀ a j, fhcs b (lav xs i a j) = lav xs i a j
  | 0, _ => rfl
  | a + 1, j => by
    show .int (xs (i + j)) :: fhcs b (lav xs i a (j + 1)) = _
    rw [lav_cs b xs i a (j + 1)]
    rfl
def ldc1 (pc : Nat) (i : Instr) (n : Nat) : Bool := decide (decode code pc = .ok (i, n))
def lak : Nat → Nat → Nat → Bool
  | 0, _, _ => true
  | a + 1, j, pc => ldc1 pc (.aload_n 0) 1 && (ldc1 (pc + 1) (.iload_n 3) 1 && (ldc1 (pc + 2) (.iconst j) 1 && (ldc1 (pc + 3) .iadd 1 && (ldc1 (pc + 4) .iaload 1 && lak a (j + 1) (pc + 5)))))
section
variable {l : Launch} {D : va_G} {cA : Nat → ClassId} {p : Program} {e : Env} {s : State} {m : MethodId} {args : Array Value} {below : List Frame} {meth : Method} {c : Code} {H : Heap} {locs : List Loc} {cells slots : Nat} {Q : State → Prop} {ls : Array Slot} {lv : List (Nat × Value)} {bS L i : Nat} {xs : Nat → Int32}
set_option maxRecDepth 100000 in
theorem largs (hx : p.tables.exec = Jvm.exec) (hb : c.code = code) (h0 : ls[0]? = some (.val (.ref bS))) (h3 : ls[3]? = some (.val (.int (nI i)))) (hX : va_X bS L xs s s.heap) (hbl : bS < s.heap.size) (hS : va_S (gAa s.heap.size) s.heap H locs) (hL : L ≤ 3072) :
    ∀ (a j pc : Nat) (rest : List Value), lak a j pc = true → i + j + a ≤ L → W p l e room_1 s m args below meth c H locs cells slots Q (F0 m (pc + 5 * a) ls ((lav xs i a j).reverse ++ rest)) → W p l e room_1 s m args below meth c H locs cells slots Q (F0 m pc ls rest)
  | 0, j, pc, rest, _, _, kk => by
    have e : pc + 5 * 0 = pc := rfl
    rw [e] at kk
    exact kk
  | a + 1, j, pc, rest, h, hij, kk => by
    obtain ⟨d0, h⟩ := fhand h
    obtain ⟨d1, h⟩ := fhand h
    obtain ⟨d2, h⟩ := fhand h
    obtain ⟨d3, h⟩ := fhand h
    obtain ⟨d4, h⟩ := fhand h
    have d0 := of_decide_eq_true d0
    have d1 := of_decide_eq_true d1
    have d2 := of_decide_eq_true d2
    have d3 := of_decide_eq_true d3
    have d4 := of_decide_eq_true d4
    refine lv_aload_n hx hb d0 rfl h0 ?_
    refine lv_iload_n hx hb d1 rfl h3 ?_
    refine lv_iconst (v := nI j) hx hb d2 rfl ?_
    refine lv_iadd hx hb d3 ?_
    rw [nI_add]
    have hin : vp_in (nI (i + j)) L := vp_in_nI (by omega) (by omega)
    refine va_sld hx hb hX hbl (show ¬ s.heap.size ≤ bS by omega) hS hin d4 ?_
    rw [nI_clamp (show i + j < 2 ^ 31 by omega)]
    refine largs hx hb h0 h3 hX hbl hS hL a (j + 1) (pc + 5) (.int (xs (i + j)) :: rest) h (by omega) ?_
    have e1 : pc + 5 + 5 * a = pc + 5 * (a + 1) := by omega
    have e2 : (lav xs i a (j + 1)).reverse ++ (.int (xs (i + j)) :: rest) = (lav xs i (a + 1) j).reverse ++ rest := by
      show _ = (Value.int (xs (i + j)) :: lav xs i a (j + 1)).reverse ++ rest
      rw [List.reverse_cons, List.append_assoc]
      rfl
    rw [e1, e2]
    exact kk
/-- a case: x's answer and m's answer are one -/
theorem lcase (hx : p.tables.exec = Jvm.exec) (hb : c.code = code) (hml : c.maxLocals = 4) (hown : s.vm.findClass (fhrx 15) = some m.cls) (hts : ∀ w ∈ fhtbl, w.before args s = true) (hK : va_K D vwCl (fhtys cA) s) (hXl : lX s.heap.size s)
    (hl : lv_has ls 4 lv) (h0 : ls[0]? = some (.val (.ref bS))) (h1 : ls[1]? = some (.val (.ref s.heap.size))) (h2 : ls[2]? = some (.val (.ref (s.heap.size + 102)))) (h3 : ls[3]? = some (.val (.int (nI i)))) (hX : va_X bS L xs s s.heap) (hbl : bS < s.heap.size) (hL : L ≤ 3072) (hR : cells ≤ 600000 ∧ slots ≤ 7302250)
    {a pc iF iM dF dM : Nat} {off : Int} {miF miM : fhMI} {σ σ' τ τ' : fhM} {v : Int32} (hij : i + 1 + a ≤ L)
    (hk : (ldc1 pc (.aload_n 1) 1 && (lak a 1 (pc + 1) && (ldc1 (pc + 1 + 5 * a) (.invokevirtual iF) 3 && (ldc1 (pc + 1 + 5 * a + 3) (.aload_n 2) 1 && (lak a 1 (pc + 1 + 5 * a + 4) && (ldc1 (pc + 1 + 5 * a + 4 + 5 * a) (.invokevirtual iM) 3 && (ldc1 (pc + 1 + 5 * a + 4 + 5 * a + 3) (.if_icmp .eq off) 3 && decide (((pc + 1 + 5 * a + 4 + 5 * a + 3 : Nat) : Int) + off = ((1125 : Nat) : Int))))))))) = true)
    (hF : fhC fhYF (l, D, s.heap.size, cA, lX s.heap.size) dF miF (.ref 0 :: lav xs i a 1) σ (some (.int v)) σ') (hMF : fhMv miF a) (hlF : Cond.methodLink (fhrx 15) iF miF.1 ∈ fhtbl) (hdF : dF ≤ 1000) (hcF : miF.1.cls = RX11)
    (hM : fhC fhYM (l, D, s.heap.size + 102, cA, lX s.heap.size) dM miM (.ref 0 :: lav xs i a 1) τ (some (.int v)) τ') (hMM : fhMv miM a) (hlM : Cond.methodLink (fhrx 15) iM miM.1 ∈ fhtbl) (hdM : dM ≤ 1000) (hcM : miM.1.cls = RX12)
    (hP1 : va_P D vwCl (fhws fhYF s.heap.size cA σ) H) (hP2 : va_P D vwCl (fhws fhYM (s.heap.size + 102) cA τ) H) (hS : va_S (gAa s.heap.size) s.heap H [])
    (kk : ∀ H1 : Heap, va_P D vwCl (fhws fhYF s.heap.size cA σ') H1 → va_P D vwCl (fhws fhYM (s.heap.size + 102) cA τ') H1 → va_S (gAa s.heap.size) s.heap H1 [] → W p l e room_1 s m args below meth c H1 [] cells slots Q (F0 m 1125 ls [])) :
    W p l e room_1 s m args below meth c H [] cells slots Q (F0 m pc ls []) := by
  obtain ⟨d0, hk⟩ := fhand hk
  obtain ⟨d1, hk⟩ := fhand hk
  obtain ⟨d2, hk⟩ := fhand hk
  obtain ⟨d3, hk⟩ := fhand hk
  obtain ⟨d4, hk⟩ := fhand hk
  obtain ⟨d5, hk⟩ := fhand hk
  obtain ⟨d6, d7⟩ := fhand hk
  have d0 := of_decide_eq_true d0
  have d2 := of_decide_eq_true d2
  have d3 := of_decide_eq_true d3
  have d5 := of_decide_eq_true d5
  have d6 := of_decide_eq_true d6
  have d7 := of_decide_eq_true d7
  refine lv_aload_n hx hb d0 rfl h1 ?_
  refine largs hx hb h0 h3 hX hbl hS hL a 1 (pc + 1) _ d1 hij ?_
  have c1 := lav_cs s.heap.size xs i a 1
  have c2 := lav_cs (s.heap.size + 102) xs i a 1
  rw [← c1]
  refine lcall (Y1 := fhYF) (Y2 := fhYM) (b1 := s.heap.size) (b2 := s.heap.size + 102) (σ2 := τ) (ci := 11) (rest := []) hx hb hml hown hts hK hXl hF hMF hlF hdF (Nat.le_refl _) (fun q h h' => ?_) (by rw [hcF]; rfl) rfl (lav_len xs i a 1) (Nat.zero_le _) hl.1 d2 hR hP1 hP2 hS (fun H1 hP1 hP2 hS => ?_)
  · have a1 : q < s.heap.size + 102 := h.2
    have a2 : s.heap.size + 102 ≤ q := h'.1
    omega
  refine lv_aload_n hx hb d3 rfl h2 ?_
  refine largs hx hb h0 h3 hX hbl hS hL a 1 (pc + 1 + 5 * a + 4) _ d4 hij ?_
  rw [← c2]
  refine lcall (Y1 := fhYM) (Y2 := fhYF) (b1 := s.heap.size + 102) (b2 := s.heap.size) (σ2 := σ') (ci := 12) (rest := [.int v]) hx hb hml hown hts hK hXl hM hMM hlM hdM (Nat.le_add_right _ _) (fun q h h' => ?_) (by rw [hcM]; rfl) rfl (lav_len xs i a 1) (by show 1 ≤ 8; decide) hl.1 d5 hR hP2 hP1 hS (fun H1 hP1 hP2 hS => ?_)
  · have a1 : q < s.heap.size + 102 := h'.2
    have a2 : s.heap.size + 102 ≤ q := h.1
    omega
  exact lv_icmp_eq hx hb d6 d7 (fun _ => kk H1 hP2 hP1 hS) (fun h => absurd rfl h)
end
