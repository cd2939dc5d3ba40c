/-! THE LAW: its switch, its loop, by program -/
section
variable {l : Launch} {D : va_G} {cA : Nat → ClassId} {p : Program} {e : Env} {s : State} {m : MethodId} {args : Array Value} {below : List Frame} {meth : Method} {c : Code} {H : Heap} {cells slots : Nat} {Q : State → Prop} {ls : Array Slot} {bS L i n : Nat} {xs : Nat → Int32} {A : aS} {σ τ : fhM}
def loffs : Array Int := #[167, 230, 253, 266, 289, 312, 345, 378, 411, 434, 467, 500, 533, 546, 579, 602, 615, 638, 671, 694, 727, 760, 773, 796, 819, 842, 855, 878, 901, 934, 957, 970, 983, 1006, 1020, 1033, 1056, 1069]
theorem ldsw : decode code 33 = .ok (.tableswitch 1092 0 37 loffs, 167) := by decide +kernel
set_option maxRecDepth 100000 in
theorem lsw (C : lCtx D cA p s m args c ls bS L i xs) (hR : cells ≤ 600000 ∧ slots ≤ 7302250) (hn : n ≤ 1000) (hc : CS A σ) (hm : MS A τ) (hv : AV n A) (hM : lMm D cA s H σ τ) (kk : lNx l D cA p e s m args below meth c cells slots Q ls n) (x : Int32) : W p l e room_1 s m args below meth c H [] cells slots Q (F0 m 33 ls [.int (x &&& 63)]) := by
  have hx := C.1
  have hb := C.2.1
  obtain ⟨j, hj, e1⟩ := pk_andE x (m := 63) 6 rfl
  rw [e1]
  by_cases h2 : j < 38
  · match j, h2 with
    | 0, _ => exact lv_tableIn (off := 167) (tgt := 200) hx hb ldsw (by decide) (by decide) (by decide +kernel) (by decide) (lcs_0 C hR hn hc hm hv hM kk)
    | 1, _ => exact lv_tableIn (off := 230) (tgt := 263) hx hb ldsw (by decide) (by decide) (by decide +kernel) (by decide) (lcs_1 C hR hn hc hm hv hM kk)
    | 2, _ => exact lv_tableIn (off := 253) (tgt := 286) hx hb ldsw (by decide) (by decide) (by decide +kernel) (by decide) (lcs_2 C hR hn hc hm hv hM kk)
    | 3, _ => exact lv_tableIn (off := 266) (tgt := 299) hx hb ldsw (by decide) (by decide) (by decide +kernel) (by decide) (lcs_3 C hR hn hc hm hv hM kk)
    | 4, _ => exact lv_tableIn (off := 289) (tgt := 322) hx hb ldsw (by decide) (by decide) (by decide +kernel) (by decide) (lcs_4 C hR hn hc hm hv hM kk)
    | 5, _ => exact lv_tableIn (off := 312) (tgt := 345) hx hb ldsw (by decide) (by decide) (by decide +kernel) (by decide) (lcs_5 C hR hn hc hm hv hM kk)
    | 6, _ => exact lv_tableIn (off := 345) (tgt := 378) hx hb ldsw (by decide) (by decide) (by decide +kernel) (by decide) (lcs_6 C hR hn hc hm hv hM kk)
    | 7, _ => exact lv_tableIn (off := 378) (tgt := 411) hx hb ldsw (by decide) (by decide) (by decide +kernel) (by decide) (lcs_7 C hR hn hc hm hv hM kk)
    | 8, _ => exact lv_tableIn (off := 411) (tgt := 444) hx hb ldsw (by decide) (by decide) (by decide +kernel) (by decide) (lcs_8 C hR hn hc hm hv hM kk)
    | 9, _ => exact lv_tableIn (off := 434) (tgt := 467) hx hb ldsw (by decide) (by decide) (by decide +kernel) (by decide) (lcs_9 C hR hn hc hm hv hM kk)
    | 10, _ => exact lv_tableIn (off := 467) (tgt := 500) hx hb ldsw (by decide) (by decide) (by decide +kernel) (by decide) (lcs_10 C hR hn hc hm hv hM kk)
    | 11, _ => exact lv_tableIn (off := 500) (tgt := 533) hx hb ldsw (by decide) (by decide) (by decide +kernel) (by decide) (lcs_11 C hR hn hc hm hv hM kk)
    | 12, _ => exact lv_tableIn (off := 533) (tgt := 566) hx hb ldsw (by decide) (by decide) (by decide +kernel) (by decide) (lcs_12 C hR hn hc hm hv hM kk)
    | 13, _ => exact lv_tableIn (off := 546) (tgt := 579) hx hb ldsw (by decide) (by decide) (by decide +kernel) (by decide) (lcs_13 C hR hn hc hm hv hM kk)
    | 14, _ => exact lv_tableIn (off := 579) (tgt := 612) hx hb ldsw (by decide) (by decide) (by decide +kernel) (by decide) (lcs_14 C hR hn hc hm hv hM kk)
    | 15, _ => exact lv_tableIn (off := 602) (tgt := 635) hx hb ldsw (by decide) (by decide) (by decide +kernel) (by decide) (lcs_15 C hR hn hc hm hv hM kk)
    | 16, _ => exact lv_tableIn (off := 615) (tgt := 648) hx hb ldsw (by decide) (by decide) (by decide +kernel) (by decide) (lcs_16 C hR hn hc hm hv hM kk)
    | 17, _ => exact lv_tableIn (off := 638) (tgt := 671) hx hb ldsw (by decide) (by decide) (by decide +kernel) (by decide) (lcs_17 C hR hn hc hm hv hM kk)
    | 18, _ => exact lv_tableIn (off := 671) (tgt := 704) hx hb ldsw (by decide) (by decide) (by decide +kernel) (by decide) (lcs_18 C hR hn hc hm hv hM kk)
    | 19, _ => exact lv_tableIn (off := 694) (tgt := 727) hx hb ldsw (by decide) (by decide) (by decide +kernel) (by decide) (lcs_19 C hR hn hc hm hv hM kk)
    | 20, _ => exact lv_tableIn (off := 727) (tgt := 760) hx hb ldsw (by decide) (by decide) (by decide +kernel) (by decide) (lcs_20 C hR hn hc hm hv hM kk)
    | 21, _ => exact lv_tableIn (off := 760) (tgt := 793) hx hb ldsw (by decide) (by decide) (by decide +kernel) (by decide) (lcs_21 C hR hn hc hm hv hM kk)
    | 22, _ => exact lv_tableIn (off := 773) (tgt := 806) hx hb ldsw (by decide) (by decide) (by decide +kernel) (by decide) (lcs_22 C hR hn hc hm hv hM kk)
    | 23, _ => exact lv_tableIn (off := 796) (tgt := 829) hx hb ldsw (by decide) (by decide) (by decide +kernel) (by decide) (lcs_23 C hR hn hc hm hv hM kk)
    | 24, _ => exact lv_tableIn (off := 819) (tgt := 852) hx hb ldsw (by decide) (by decide) (by decide +kernel) (by decide) (lcs_24 C hR hn hc hm hv hM kk)
    | 25, _ => exact lv_tableIn (off := 842) (tgt := 875) hx hb ldsw (by decide) (by decide) (by decide +kernel) (by decide) (lcs_25 C hR hn hc hm hv hM kk)
    | 26, _ => exact lv_tableIn (off := 855) (tgt := 888) hx hb ldsw (by decide) (by decide) (by decide +kernel) (by decide) (lcs_26 C hR hn hc hm hv hM kk)
    | 27, _ => exact lv_tableIn (off := 878) (tgt := 911) hx hb ldsw (by decide) (by decide) (by decide +kernel) (by decide) (lcs_27 C hR hn hc hm hv hM kk)
    | 28, _ => exact lv_tableIn (off := 901) (tgt := 934) hx hb ldsw (by decide) (by decide) (by decide +kernel) (by decide) (lcs_28 C hR hn hc hm hv hM kk)
    | 29, _ => exact lv_tableIn (off := 934) (tgt := 967) hx hb ldsw (by decide) (by decide) (by decide +kernel) (by decide) (lcs_29 C hR hn hc hm hv hM kk)
    | 30, _ => exact lv_tableIn (off := 957) (tgt := 990) hx hb ldsw (by decide) (by decide) (by decide +kernel) (by decide) (lcs_30 C hR hn hc hm hv hM kk)
    | 31, _ => exact lv_tableIn (off := 970) (tgt := 1003) hx hb ldsw (by decide) (by decide) (by decide +kernel) (by decide) (lcs_31 C hR hn hc hm hv hM kk)
    | 32, _ => exact lv_tableIn (off := 983) (tgt := 1016) hx hb ldsw (by decide) (by decide) (by decide +kernel) (by decide) (lcs_32 C hR hn hc hm hv hM kk)
    | 33, _ => exact lv_tableIn (off := 1006) (tgt := 1039) hx hb ldsw (by decide) (by decide) (by decide +kernel) (by decide) (lcs_33 C hR hc hm hv hM kk)
    | 34, _ => exact lv_tableIn (off := 1020) (tgt := 1053) hx hb ldsw (by decide) (by decide) (by decide +kernel) (by decide) (lcs_34 C hR hn hc hm hv hM kk)
    | 35, _ => exact lv_tableIn (off := 1033) (tgt := 1066) hx hb ldsw (by decide) (by decide) (by decide +kernel) (by decide) (lcs_35 C hR hn hc hm hv hM kk)
    | 36, _ => exact lv_tableIn (off := 1056) (tgt := 1089) hx hb ldsw (by decide) (by decide) (by decide +kernel) (by decide) (lcs_36 C hR hn hc hm hv hM kk)
    | 37, _ => exact lv_tableIn (off := 1069) (tgt := 1102) hx hb ldsw (by decide) (by decide) (by decide +kernel) (by decide) (lcs_37 C hR hn hc hm hv hM kk)
    | k + 38, h => omega
  · exact lv_tableOut (tgt := 1125) hx hb ldsw (Or.inr (by rw [nI_toInt (by omega)]; omega)) (by decide) (kk A σ τ H hc hm (AV_s hv) hM)
theorem lloop (hx : p.tables.exec = Jvm.exec) (hb : c.code = code) (hml : c.maxLocals = 4) (hown : s.vm.findClass (fhrx 15) = some m.cls) (hts : ∀ w ∈ fhtbl, w.before args s = true) (hK : va_K D vwCl (fhtys cA) s) (hXl : lX s.heap.size s) (hX : va_X bS L xs s s.heap) (hbl : bS < s.heap.size) (hL : L ≤ 3072) (hR : cells ≤ 600000 ∧ slots ≤ 7302250)
    (kx : ∀ (ls : Array Slot) (H1 : Heap), va_S (gAa s.heap.size) s.heap H1 [] → W p l e room_1 s m args below meth c H1 [] cells slots Q (F0 m 1131 ls [])) :
    ∀ (k n : Nat) {A : aS} {σ τ : fhM} {H : Heap} {ls : Array Slot}, 6 * n ≤ L → L < 6 * n + 6 * k → CS A σ → MS A τ → AV n A → lMm D cA s H σ τ → lv_has ls 4 [(3, .int (nI (6 * n))), (2, .ref (s.heap.size + 102)), (1, .ref s.heap.size), (0, .ref bS)] → W p l e room_1 s m args below meth c H [] cells slots Q (F0 m 18 ls [])
  | 0, n, A, σ, τ, H, ls, h1, h2, hc, hm, hv, hM, hl => by omega
  | k + 1, n, A, σ, τ, H, ls, h1, h2, hc, hm, hv, hM, hl => by
    have hS := hM.2.2
    refine lv_iload_n hx hb (show decode code 18 = .ok (.iload_n 3, 1) by decide +kernel) rfl (lv_at hl 0 rfl) ?_
    refine lv_aload_n hx hb (show decode code 19 = .ok (.aload_n 0, 1) by decide +kernel) rfl (lv_at hl 3 rfl) ?_
    refine va_slen hx hb hX hbl (show ¬ s.heap.size ≤ bS by omega) hS (show decode code 20 = .ok (.arraylength, 1) by decide +kernel) ?_
    refine lv_bipush (v := nI 6) hx hb (show decode code 21 = .ok (.bipush 6, 2) by decide +kernel) rfl ?_
    refine lv_isub hx hb (show decode code 23 = .ok (.isub, 1) by decide +kernel) ?_
    have ht : (nI L - nI 6).toInt = (L : Int) - 6 := pk_sub_toInt (by omega) (by decide)
    have hti : (nI (6 * n)).toInt = ((6 * n : Nat) : Int) := nI_toInt (by omega)
    refine lv_icmp_gt (off := 1107) (tgt := 1131) hx hb (show decode code 24 = .ok (.if_icmp .gt 1107, 3) by decide +kernel) (by decide) (fun _ => kx ls H hS) (fun hlt => ?_)
    have hlt : ¬ (nI L - nI 6 < nI (6 * n)) := hlt
    rw [Int32.lt_iff_toInt_lt, ht, hti] at hlt
    have h6 : 6 * n + 6 ≤ L := by omega
    refine lv_aload_n hx hb (show decode code 27 = .ok (.aload_n 0, 1) by decide +kernel) rfl (lv_at hl 3 rfl) ?_
    refine lv_iload_n hx hb (show decode code 28 = .ok (.iload_n 3, 1) by decide +kernel) rfl (lv_at hl 0 rfl) ?_
    refine va_sld hx hb hX hbl (show ¬ s.heap.size ≤ bS by omega) hS (vp_in_nI (show 6 * n < L by omega) (by omega)) (show decode code 29 = .ok (.iaload, 1) by decide +kernel) ?_
    refine lv_bipush (v := 63) hx hb (show decode code 30 = .ok (.bipush 63, 2) by decide +kernel) rfl ?_
    refine lv_iand hx hb (show decode code 32 = .ok (.iand, 1) by decide +kernel) ?_
    refine lsw (i := 6 * n) (L := L) (bS := bS) (xs := xs) (n := n) (A := A) (σ := σ) (τ := τ) ⟨hx, hb, hml, hown, hts, hK, hXl, hl, hX, hbl, hL, h6⟩ hR (by omega) hc hm hv hM (fun B a b H1 c1 m1 v1 hM1 => ?_) _
    refine lv_iinc (v := nI (6 * (n + 1))) (k := 0) (lv' := [(3, .int (nI (6 * (n + 1)))), (2, .ref (s.heap.size + 102)), (1, .ref s.heap.size), (0, .ref bS)]) hx hb (show decode code 1125 = .ok (.iinc 3 6, 3) by decide +kernel) hl rfl (show nI (6 * n) + nI 6 = nI (6 * (n + 1)) from nI_add _ _) (by decide) rfl (fun ls' hl' => ?_)
    refine lv_goto (off := -1110) (tgt := 18) hx hb (show decode code 1128 = .ok (.goto (-1110), 3) by decide +kernel) (by decide) ?_
    exact lloop hx hb hml hown hts hK hXl hX hbl hL hR kx k (n + 1) (by omega) (by omega) c1 m1 v1 hM1 hl'
end
