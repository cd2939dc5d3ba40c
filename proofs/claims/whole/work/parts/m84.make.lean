/-! THE LAW: the two objects are made -/
section
variable {l : Launch} {D : va_G} {cA : Nat → ClassId} {p : Program} {e : Env} {s : State} {m : MethodId} {args : Array Value} {below : List Frame} {meth : Method} {c : Code} {Q : State → Prop} {ls : Array Slot} {bS : Nat}
def l_d0 : decode code 0 = .ok (.new 7, 3) := by decide +kernel
def l_d3 : decode code 3 = .ok (.dup, 1) := by decide +kernel
def l_d4 : decode code 4 = .ok (.invokespecial 9, 3) := by decide +kernel
def l_d7 : decode code 7 = .ok (.astore_n 1, 1) := by decide +kernel
def l_d8 : decode code 8 = .ok (.new 10, 3) := by decide +kernel
def l_d11 : decode code 11 = .ok (.dup, 1) := by decide +kernel
def l_d12 : decode code 12 = .ok (.invokespecial 12, 3) := by decide +kernel
def l_d15 : decode code 15 = .ok (.astore_n 2, 1) := by decide +kernel
def l_d16 : decode code 16 = .ok (.iconst 0, 1) := by decide +kernel
def l_d17 : decode code 17 = .ok (.istore_n 3, 1) := by decide +kernel
theorem gdf_ok (c' : Nat) : ∀ j, j < fhcN c' → defaultValue (fhcy c' j) = vp_V (gdf c') j := fun j hj => by
  show defaultValue (fhcy c' j) = ((List.range (fhcN c')).map (fun j => defaultValue (fhcy c' j))).getD j .null
  rw [List.getD_eq_getElem?_getD, List.getElem?_map, List.getElem?_range hj]
  rfl
theorem gent_n (b : Nat) (cA : Nat → ClassId) (c' : Nat) : gent b cA (0, c', fhcN c', gdf c', []) = .inr (c', gdf c') := by
  show Sum.inr (c', (gdf c').map (fhcv b)) = _
  rw [gdf_cv]
/-- a constructor called out of the law: X's object is the last of a world -/
theorem lctor {b n mc ms idx x cells slots pc : Nat} {H : Heap} {locs : List Loc} {rest : List Value} {w' : List gE} (hx13 : x < 13) (hnl : gnp x = 0) (hgl : 1 ≤ gnl x)
    (hx : p.tables.exec = Jvm.exec) (hb : c.code = code) (hml : c.maxLocals = 4) (hown : s.vm.findClass (fhrx 15) = some m.cls) (hts : ∀ w ∈ fhtbl, w.before args s = true) (hK : va_K D vwCl (fhtys cA) s) (hX : lX s.heap.size s)
    (hrun : gev n x 0 (lv_args 0 [.ref 0]) [] [(0, x, fhcN x, gdf x, [])] 0 0 = some (w', mc, ms)) (hn : n ≤ 2000) (hbz : s.heap.size ≤ b) (hlink : Cond.methodLink (fhrx 15) idx (gy x) ∈ fhtbl) (hd : decode code pc = .ok (.invokespecial idx, 3)) (hl : ls.size = 4) (hcat : (rest.map fun v => v.category).sum ≤ 8) (hR : cells + mc ≤ 600000 ∧ slots + ms ≤ 7302250) (hbc : b + 1 = s.heap.size + cells)
    (hP : va_P D vwCl (gws b cA [(0, x, fhcN x, gdf x, [])]) H) (hS : va_S (gAa s.heap.size) s.heap H locs)
    (kk : ∀ H1 : Heap, va_P D vwCl (gws b cA w') H1 → (∀ q, q < b → H1[q]? = H[q]?) → va_S (gAa s.heap.size) s.heap H1 [] → W p l e room_1 s m args below meth c H1 [] (cells + mc) (slots + ms) Q (F0 m (pc + 3) ls rest)) :
    W p l e room_1 s m args below meth c H locs cells slots Q (F0 m pc ls (.ref b :: rest)) := by
  obtain ⟨k1, k2, k3, k4, k5, k6, k7⟩ := gcls x hx13
  obtain ⟨i1, i2, i3, i4⟩ := gin x hx13
  have hA : ∀ q, gAa b q → gAa s.heap.size q := fun q hq => Nat.le_trans hbz hq
  have hXs : fhXs (gAa b) (lX s.heap.size) := lX_s hA
  have hMet := gmet (l := l) (D := D) (b := b) (cA := cA) (X := lX s.heap.size) (n := n) (c := x) (mc := mc) (ms := ms) (av := [.ref 0]) (w := [(0, x, fhcN x, gdf x, [])]) (w' := w') hx13 hgl (fun U hU => hU.2) (show 0 < 1 by decide) (fun ho2 hl2 hM2 => gev_ok n hrun (Nat.le_refl _) ho2 hl2 hM2)
  have hG : GoodIn fhtbl (.code (gy x) (gcd x) (gnl x) none :: fhtbl) := fun w hw => by
    rcases List.mem_cons.mp hw with rfl | hw
    · exact fhgood _ i1
    · exact fhgood w hw
  have hini : (Cond.initialized (gy x).cls).before args s = true := by
    rw [k1]
    exact hts _ i3
  have cb : CallB room_1 s args (fhrx 15) idx (gy x) (gcd x) (gnl x) none (.code (gy x) (gcd x) (gnl x) none :: fhtbl) (gRm n mc ms) mc ms 0 := by
    refine callB_of 0 hts hG rfl rfl rfl hini (hts _ hlink) ⟨k4, k5, by rw [k6, hnl]⟩ ⟨?_, ?_⟩
    · show n + 1 ≤ 2048
      omega
    · show 8 + (gnl x + 11) + (40 * n + 80) ≤ 84000
      omega
  refine gW_sz (fun hz => ?_)
  have hlow : b + 1 ≤ H.size := gws_lt hP (Nat.le_refl 1)
  have hsz : H.size = b + 1 := by omega
  have hb0 : b + 0 = b := rfl
  refine ggo (b := s.heap.size) (va_runI (As := []) (rest := rest) (n := 0) ⟨hx, hb, hml, hown, hts⟩ hMet ⟨cb, k2, hts _ i2⟩ ⟨fun a' U g mk q => by
    obtain ⟨q0, qz, qP, qK, qX, qs⟩ := q
    exact ⟨q0, qz, qP, va_K.moved (u := U) (U := U.calling g mk a') (Vm.Alike.refl U.vm) qK, qs U (U.calling g mk a') qX (State.WarmedH.refl U) (Nat.le_refl _) (fun _ _ _ => rfl), qs⟩, fun U hU hW => ⟨rfl, by rw [hU]; exact hsz, by rw [hU]; exact hP, va_K.moved hW.alike hK, lX_s (A := gAa s.heap.size) (fun _ h => h) s U hX hW (by rw [hU]; exact hS.1) (by rw [hU]; exact hS.2.1), hXs⟩⟩
    rfl rfl hl rfl ?_ hd hR) hA (fun st₀ v t h => ⟨h.2.2.1, fun q h1 h2 => h.2.2.2 q h1 (fun z => h2 (hA q z))⟩) hS (fun v st₀ t locs1 h0 hq hS1 => ?_)
  · show 2 * 0 + _ ≤ 8
    omega
  · obtain ⟨q1, q2, q3, q4⟩ := hq
    cases q1
    rw [h0] at q3 q4
    exact va_forget (fun q hq => hS1.2.2 q hq) (kk t.heap q2 (fun q hq => q4 q (by omega) (fun z => absurd z (by unfold gAa; omega))) ⟨hS1.1, hS1.2.1, fun _ h => by cases h⟩)
theorem lmake (hx : p.tables.exec = Jvm.exec) (hb : c.code = code) (hml : c.maxLocals = 4) (hown : s.vm.findClass (fhrx 15) = some m.cls) (hts : ∀ w ∈ fhtbl, w.before args s = true) (hK : va_K D vwCl (fhtys cA) s) (hX : lX s.heap.size s) (hl : lv_has ls 4 [(0, .ref bS)])
    (kk : ∀ (ls : Array Slot) (H1 : Heap), lv_has ls 4 [(3, .int 0), (2, .ref (s.heap.size + 102)), (1, .ref s.heap.size), (0, .ref bS)] → va_P D vwCl (fhws fhYF s.heap.size cA (gmem gwF)) H1 → va_P D vwCl (fhws fhYM (s.heap.size + 102) cA (gmem gwM)) H1 → va_S (gAa s.heap.size) s.heap H1 [] → W p l e room_1 s m args below meth c H1 [] 182 154400 Q (F0 m 18 ls [])) :
    W p l e room_1 s m args below meth c s.heap [] 0 0 Q (F0 m 0 ls []) := by
  have hA : ∀ q, s.heap.size ≤ q → gAa s.heap.size q := fun _ h => h
  have hP0 : va_P D vwCl (gws s.heap.size cA []) s.heap := fun k q h => by
    have h : ([] : va_W)[k]? = some q := h
    rw [List.getElem?_nil] at h
    cases h
  obtain ⟨hcv, hws, hty, hnm⟩ := fhcl_ok 11 (by decide)
  obtain ⟨hcv2, hws2, hty2, hnm2⟩ := fhcl_ok 12 (by decide)
  obtain ⟨-, -, hini, hinst⟩ := gin 11 (by decide)
  obtain ⟨-, -, hini2, hinst2⟩ := gin 12 (by decide)
  refine va_new (ci := 11) (fs := gdf 11) (C := fhrx 11) (T := fhcT 11) (N := fhcN 11) hx hb hts hws (fhcy 11) hty hown (hts _ lnew_11) (hts _ hinst) (hts _ hini) hK hP0 gws_D va_S.rf hA hcv (gdf_ok 11) (show 0 + 1 ≤ 600000 by decide) (show 0 + 19 ≤ 7302250 by decide) l_d0 (fun q H1 hP1 hD1 hS1 => ?_)
  refine gW_sz (fun hz => ?_)
  have hq : q = s.heap.size + ([] : List gE).length := gws_new hP1 hD1 hz
  subst hq
  rw [← gent_n s.heap.size cA 11, gws_push] at hP1
  refine lv_dup hx hb l_d3 rfl ?_
  refine lctor (x := 11) (n := 400) (mc := 101) (ms := 49922) (b := s.heap.size) (w' := gwF) (by decide) rfl (by decide) hx hb hml hown hts hK hX gevF (by decide) (Nat.le_refl _) ll_9 l_d4 hl.1 (show 1 ≤ 8 by decide) ⟨(show 0 + 1 + 101 ≤ 600000 by decide), (show 0 + 19 + 49922 ≤ 7302250 by decide)⟩ rfl hP1 hS1 (fun H2 hP2 _ hS2 => ?_)
  refine lv_astore_n (lv' := [(1, .ref s.heap.size), (0, .ref bS)]) hx hb l_d7 rfl hl (by decide) rfl (fun ls hl => ?_)
  refine va_new (ci := 12) (fs := gdf 12) (C := fhrx 12) (T := fhcT 12) (N := fhcN 12) hx hb hts hws2 (fhcy 12) hty2 hown (hts _ lnew_12) (hts _ hinst2) (hts _ hini2) hK hP2 gws_D hS2 hA hcv2 (gdf_ok 12) (show 0 + 1 + 101 + 1 ≤ 600000 by decide) (show 0 + 19 + 49922 + 110 ≤ 7302250 by decide) l_d8 (fun q H3 hP3 hD3 hS3 => ?_)
  refine gW_sz (fun hz3 => ?_)
  have hlF : gwF.length = 102 := by decide +kernel
  have hq : q = s.heap.size + gwF.length := gws_new hP3 hD3 (by rw [hlF]; omega)
  rw [hlF] at hq
  subst hq
  have hPF : va_P D vwCl (gws s.heap.size cA gwF) H3 := fun k q hk => hP3 k q (by rw [List.getElem?_append_left (List.getElem?_eq_some_iff.mp hk).1]; exact hk)
  have hPM : va_P D vwCl (gws (s.heap.size + 102) cA [(0, 12, fhcN 12, gdf 12, [])]) H3 := fun k q hk => by
    obtain ⟨e1, he, rfl⟩ := gws_of hk
    have hk0 : k = 0 := by
      have := (List.getElem?_eq_some_iff.mp he).1
      have : k < 1 := this
      omega
    subst hk0
    cases he
    rw [gent_n]
    exact hP3 102 _ (by rw [List.getElem?_append_right (by rw [gws_len, hlF]; decide), gws_len, hlF]; rfl)
  refine lv_dup hx hb l_d11 rfl ?_
  refine lctor (x := 12) (n := 1125) (mc := 79) (ms := 104349) (b := s.heap.size + 102) (w' := gwM) (by decide) rfl (by decide) hx hb hml hown hts hK hX geM_0 (by decide) (Nat.le_add_right _ _) ll_12 l_d12 hl.1 (show 1 ≤ 8 by decide) ⟨(show 0 + 1 + 101 + 1 + 79 ≤ 600000 by decide), (show 0 + 19 + 49922 + 110 + 104349 ≤ 7302250 by decide)⟩ rfl hPM hS3 (fun H4 hP4 hk4 hS4 => ?_)
  have hPF4 : va_P D vwCl (gws s.heap.size cA gwF) H4 := hPF.kept (fun k q hk => hk4 q.1 (by
    obtain ⟨e1, he, rfl⟩ := gws_of hk
    have := (List.getElem?_eq_some_iff.mp he).1
    show s.heap.size + k < s.heap.size + 102
    omega))
  refine lv_astore_n (lv' := [(2, .ref (s.heap.size + 102)), (1, .ref s.heap.size), (0, .ref bS)]) hx hb l_d15 rfl hl (by decide) rfl (fun ls hl => ?_)
  refine lv_iconst (v := 0) hx hb l_d16 (by decide) ?_
  refine lv_istore_n (lv' := [(3, .int 0), (2, .ref (s.heap.size + 102)), (1, .ref s.heap.size), (0, .ref bS)]) hx hb l_d17 rfl hl (by decide) rfl (fun ls hl => ?_)
  exact kk ls H4 hl (by rw [← gF_ws]; exact hPF4) (by rw [← gM_ws]; exact hP4) hS4
end
