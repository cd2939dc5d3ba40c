section
variable {l : Launch} {D : va_G} {b : Nat} {cA : Nat → ClassId} {X : State → Prop} {p : Program} {e : Env} {R : Room} {s : State} {m : MethodId} {args : Array Value} {below : List Frame} {meth : Method} {c : Code} {H : Heap} {locs : List Loc} {cl sl : Nat} {Q : State → Prop} {x pc : Nat} {ls : Array Slot} {lv : List (Nat × Value)} {st st' : List Value} {w w' : List gE} {k dc ds : Nat} {i : Instr}
set_option maxHeartbeats 4000000 in
theorem gs1_ok (ho : gOk D b cA X x p s m args meth c) (hl : lv_has ls c.maxLocals (fhcl b lv)) (hd : decode (gcd x) pc = .ok (i, k)) (h1 : gs1 x i lv st w = some (k, st', w', dc, ds)) (hM : gMem D b cA s H locs w cl) (hR : cl + dc ≤ R.cells ∧ sl + ds ≤ R.slots ∧ 1 ≤ R.frames ∧ 80 ≤ R.locals)
    (kk : ∀ (H1 : Heap) (locs1 : List Loc), gMem D b cA s H1 locs1 w' (cl + dc) → W p l e R s m args below meth c H1 locs1 (cl + dc) (sl + ds) Q (F0 m (pc + k) ls (fhcs b st'))) : W p l e R s m args below meth c H locs cl sl Q (F0 m pc ls (fhcs b st)) := by
  obtain ⟨hx, hb, hml, hown, hts, hK, hrt, hlk, hin, hbs, hx13, hX, hXs, hNn⟩ := ho
  have hM0 := hM
  obtain ⟨hP, hS, hN⟩ := hM
  have hA : ∀ q, s.heap.size ≤ q → gAa b q := fun q hq => Nat.le_trans (Nat.le_of_lt hbs) hq
  cases i with
  | aload_n n =>
    simp only [gs1] at h1
    split at h1
    · rename_i a hv
      cases h1
      exact lv_aload_n hx hb hd rfl (fhgl_has hl hv) (kk _ _ hM0)
    · cases h1
  | iload_n n =>
    simp only [gs1] at h1
    split at h1
    · rename_i a hv
      cases h1
      exact lv_iload_n hx hb hd rfl (fhgl_has hl hv) (kk _ _ hM0)
    · cases h1
  | iconst n =>
    cases h1
    exact lv_iconst hx hb hd rfl (kk _ _ hM0)
  | bipush n =>
    cases h1
    exact lv_bipush hx hb hd rfl (kk _ _ hM0)
  | sipush n =>
    cases h1
    exact lv_sipush hx hb hd rfl (kk _ _ hM0)
  | lconst n =>
    cases h1
    exact lv_lconst hx hb hd rfl (kk _ _ hM0)
  | ldc n =>
    simp only [gs1] at h1
    obtain ⟨hc, h1⟩ := gbif h1
    cases h1
    obtain ⟨e1, e2⟩ := fhand hc
    have e1 := Nat.eq_of_beq_eq_true e1
    have e2 := Nat.eq_of_beq_eq_true e2
    subst e1 e2
    exact lv_ldc hx hb hown (hts _ gldc) hd (kk _ _ hM0)
  | dup =>
    simp only [gs1] at h1
    split at h1
    · cases h1
      exact lv_dup hx hb hd rfl (kk _ _ hM0)
    · cases h1
  | new n =>
    simp only [gs1] at h1
    split at h1
    · rename_i c' hc
      cases h1
      obtain ⟨hc13, hcl⟩ := gnwt_ok _ (gfd_m hc)
      obtain ⟨-, -, hini, hinst⟩ := gin c' hc13
      obtain ⟨hcv, hws, hty, hnm⟩ := fhcl_ok c' hc13
      refine va_new (ci := c') (fs := gdf c') (C := fhrx c') (T := fhcT c') (N := fhcN c') hx hb hts hws (fhcy c') hty hown (hts _ hcl) (hts _ hinst) (hts _ hini) hK hP gws_D hS hA hcv (fun j hj => ?_) hR.1 hR.2.1 hd (fun q H1 hP1 hD1 hS1 => ?_)
      · show defaultValue (fhcy c' j) = ((List.range (fhcN c')).map (fun j => defaultValue (fhcy c' j))).getD j .null
        rw [List.getD_eq_getElem?_getD, List.getElem?_map, List.getElem?_range hj]
        rfl
      · refine gW_sz (fun hz => ?_)
        have hq : q = b + w.length := gws_new hP1 hD1 (by omega)
        subst hq
        have e1 : gent b cA (0, c', fhcN c', gdf c', []) = .inr (c', gdf c') := by
          show Sum.inr (c', (gdf c').map (fhcv b)) = _
          rw [gdf_cv]
        rw [← e1, gws_push] at hP1
        exact kk H1 locs ⟨hP1, hS1, by rw [List.length_append]; show b + (w.length + 1) = _; omega⟩
    · cases h1
  | newarray t =>
    simp only [gs1] at h1
    split at h1
    · rename_i y n r hy
      obtain ⟨hc, h1⟩ := gbif h1
      obtain ⟨h0, hn⟩ := fhand hc
      cases h1
      have hn := Nat.le_of_ble_eq_true hn
      have h0 : ¬ n < 0 := by simpa using h0
      cases t with
      | int =>
        cases hy
        exact gna (ty := .int) (a0 := (n.toNatClampNeg, .inl (fun _ => 0))) hx hb hts hK hbs hM0 rfl (fun _ _ h => h) rfl garr.1 (by decide) (fun _ => rfl) rfl h0 hn ⟨hR.1, hR.2.1⟩ hd kk
      | char =>
        cases hy
        exact gna (ty := .char) (a0 := (n.toNatClampNeg, .inl (fun _ => 0))) hx hb hts hK hbs hM0 rfl (fun _ _ h => h) rfl garr.2.1 (by decide) (fun _ => rfl) rfl h0 hn ⟨hR.1, hR.2.1⟩ hd kk
      | boolean =>
        cases hy
        exact gna (ty := .boolean) (a0 := (n.toNatClampNeg, .inl (fun _ => 0))) hx hb hts hK hbs hM0 rfl (fun _ _ h => h) rfl garr.2.2.1 (by decide) (fun _ => rfl) rfl h0 hn ⟨hR.1, hR.2.1⟩ hd kk
      | long =>
        cases hy
        exact gna (ty := .long) (a0 := (n.toNatClampNeg, .inr (.inl (fun _ => 0)))) hx hb hts hK hbs hM0 rfl (fun _ _ h => h) rfl garr.2.2.2 (by decide) (fun _ => rfl) rfl h0 hn ⟨hR.1, hR.2.1⟩ hd kk
      | _ => cases hy
    · cases h1
  | castore =>
    simp only [gs1] at h1
    split at h1
    · rename_i v ix a r
      split at h1
      · rename_i n fs ws hw
        obtain ⟨hc, h1⟩ := gbif h1
        obtain ⟨hin2, hch⟩ := fhand hc
        cases h1
        refine va_cast hx hb hK hP gws_D hS a 1 (show (gws b cA w)[a]? = some (b + a, .inl (cA 1, n, .inl (gaf ws))) from gws_at hw) rfl (fhin_vp hin2) hd (fun H1 locs1 hP1 hD1 hS1 => ?_)
        rw [show vp_nar .char v = v from of_decide_eq_true hch] at hP1
        have e1 : gent b cA (1, 1, n, fs, (fhix ix, v) :: ws) = .inl (cA 1, n, .inl (upd (gaf ws) ix.toNatClampNeg v)) := rfl
        rw [← e1, gws_set] at hP1
        exact kk H1 locs1 ⟨hP1, hS1, by rw [List.length_set]; exact hN⟩
      · cases h1
    · cases h1
  | putfield n =>
    simp only [gs1] at h1
    split at h1
    · rename_i j v a r hj
      split at h1
      · rename_i c' nn fs ws hw
        obtain ⟨hc, h1⟩ := gbif h1
        obtain ⟨e0, hc⟩ := fhand hc
        obtain ⟨hjl, hv⟩ := fhand hc
        cases h1
        have e0 := Nat.eq_of_beq_eq_true e0
        subst e0
        obtain ⟨⟨-, hjN⟩, hlink⟩ := gpt_ok _ hx13 _ (gfd_m hj)
        obtain ⟨hcv, hws, hty, hnm⟩ := fhcl_ok c' hx13
        obtain ⟨g1, g2⟩ := gvk_ok (b := b) hv
        have hat : (gws b cA w)[a]? = some (b + a, .inr (c', fs.map (fhcv b))) := gws_at hw
        have fin : ∀ H1 locs1, va_P D vwCl ((gws b cA w).set a (b + a, .inr (c', (fs.map (fhcv b)).set j (fhcv b v)))) H1 → va_S (gAa b) s.heap H1 locs1 → W p l e R s m args below meth c H1 locs1 cl sl Q (F0 m (pc + 3) ls (fhcs b st')) := fun H1 locs1 hP1 hS1 => by
          have e1 : gent b cA (0, c', nn, fs.set j v, ws) = .inr (c', (fs.map (fhcv b)).set j (fhcv b v)) := by
            show Sum.inr (c', (fs.set j v).map (fhcv b)) = _
            rw [List.map_set]
          rw [← e1, gws_set] at hP1
          exact kk H1 locs1 ⟨hP1, hS1, by rw [List.length_set]; exact hN⟩
        cases hf : (fhcT c' j).2.2.2 with
        | false => exact va_put hx hb hts hws (fhcy c') hty hnm hown hK hP gws_D hS a hat hcv j hjN (hts _ hlink) (fun _ h => h) hf (hty j hjN) g1 g2 (by rw [List.length_map]; exact fhblt hjl) hd (fun H1 locs1 hP1 _ hS1 => fin H1 locs1 hP1 hS1)
        | true => exact va_putF hx hb hts hws (fhcy c') hty hnm hown hK hP gws_D hS a hat hcv j hjN (hts _ hlink) (fun _ h => h) hf hin (gdecl c' hx13 j hjN) (hty j hjN) g1 g2 (by rw [List.length_map]; exact fhblt hjl) hd (fun H1 locs1 hP1 _ hS1 => fin H1 locs1 hP1 hS1)
      · cases h1
    · cases h1
  | getfield n =>
    simp only [gs1] at h1
    split at h1
    · rename_i c' j a r hp
      split at h1
      · rename_i c2 nn fs ws hw
        split at h1
        · rename_i v hv
          obtain ⟨e0, h1⟩ := gbif h1
          cases h1
          have e0 := Nat.eq_of_beq_eq_true e0
          subst e0
          obtain ⟨C, T, N, ty0, hc, hin', hty, hnm, hj, hlink, -⟩ := fhPF _ _ _ _ hp
          have hat : (gws b cA w)[a]? = some (b + a, .inr (c2, fs.map (fhcv b))) := gws_at hw
          have hv' : (fs.map (fhcv b))[j]? = some (fhcv b v) := by rw [List.getElem?_map, hv]; rfl
          rcases hlink with hlink | ⟨⟨host, hlink⟩, -⟩
          · exact va_get hx hb hts hin' hown hK hP a hat hc j hj (hts _ hlink) (fun _ h => h) hv' hd (kk _ _ hM0)
          · exact va_getN hx hb hts hin' hown hK hP a hat hc j hj (hts _ hlink) (fun _ h => h) hv' hd (kk _ _ hM0)
        · cases h1
      · cases h1
    · cases h1
  | invokespecial n =>
    simp only [gs1] at h1
    split at h1
    · rename_i hob
      obtain ⟨hcat, h1⟩ := gbif h1
      cases h1
      have hcat := Nat.le_of_ble_eq_true hcat
      refine W.objInit hx hb hown (hts _ (gobt_ok _ (gobs_m hob))) (hts _ gobin.1) (hts _ gobin.2) rfl hl.1 rfl hd (by show 1 ≤ R.frames; exact hR.2.2.1) ?_ ?_
      · show 2 * 0 + ((fhcs b st').map fun v => v.category).sum + 12 ≤ R.locals
        rw [fhcs_sum]
        have := hR.2.2.2
        omega
      · exact W.eq (g2 := F0 m (pc + 3) ls (fhcs b st')) rfl (kk _ _ hM0)
    · cases h1
  | invokestatic n =>
    simp only [gs1] at h1
    obtain ⟨hc, h1⟩ := gbif h1
    obtain ⟨e1, e2⟩ := fhand hc
    have e1 := Nat.eq_of_beq_eq_true e1
    have e2 := Nat.eq_of_beq_eq_true e2
    subst e1 e2
    split at h1
    · rename_i v u r _
      have hg : ∀ {c : Bool} {o : Option (Nat × List Value × List gE × Nat × Nat)} {q : Nat × List Value × List gE × Nat × Nat}, (match c with | true => o | false => none) = some q → c = true ∧ o = some q := fun {c o q} z => by
        cases c
        · cases z
        · exact ⟨rfl, z⟩
      obtain ⟨hcat, h1⟩ := hg h1
      cases h1
      have hcat := Nat.le_of_ble_eq_true hcat
      have hMet := g_max (E := (l, D, b, cA, fun _ => True)) (d := 0) u v ((fun _ _ => 0), (fun _ _ => 0), (fun _ _ => 0))
      obtain ⟨⟨k1, k2, k3, k4, k5⟩, k6⟩ := msJ9_max_7cf53
      have cb : CallB R s args (fhrx 2) 7 yJ9_max_7cf53 cJ9_max_7cf53 2 (some .int) (.code yJ9_max_7cf53 cJ9_max_7cf53 2 (some .int) :: fhtbl) (fhrm 0) 0 0 2 := by
        refine callB_of 2 hts (fun w hw => ?_) rfl rfl rfl (hts _ k2) (hts _ ml_2_7) ⟨k3.1, k3.2, k4⟩ ⟨?_, ?_⟩
        · rcases List.mem_cons.mp hw with rfl | hw
          · exact fhgood _ k1
          · exact fhgood w hw
        · exact hR.2.2.1
        · exact Nat.le_trans (by decide) hR.2.2.2
      have p0 : ∀ H' : Heap, va_P D vwCl (fhws Y0 b cA ((fun _ _ => 0), (fun _ _ => 0), (fun _ _ => 0))) H' := fun H' k q hk => by
        have hk : ([] : va_W)[k]? = some q := hk
        rw [List.getElem?_nil] at hk
        cases hk
      refine ggo (b := b) (va_runS (As := [.int u, .int v]) (rest := fhcs b r) (n := 2) ⟨hx, hb, hml, hown, hts⟩ hMet ⟨cb, hts _ k6⟩
        ⟨fun a U g mk q => by obtain ⟨q0, qP, qK, qX, qs⟩ := q; exact ⟨q0, qP, va_K.moved (u := U) (U := U.calling g mk a) (Vm.Alike.refl U.vm) qK, trivial, qs⟩, fun U hU hW => ⟨rfl, p0 U.heap, va_K.moved hW.alike hK, trivial, fun _ _ _ _ _ _ => trivial⟩⟩
        rfl rfl (hl.1.trans hml) rfl ?_ hd ⟨hR.1, hR.2.1⟩) (fun q hq => hq.1) (fun st₀ v t h => ⟨h.2.2.1, fun q h1 h2 => h.2.2.2 q h1 (fun z => h2 z.1)⟩) hS (fun v1 st₀ t locs1 h0 hq hS1 => ?_)
      · show 2 * 0 + _ ≤ 8
        rw [fhcs_sum]
        omega
      · obtain ⟨q1, -, q3, q4⟩ := hq
        cases q1
        rw [h0] at q3 q4
        refine kk t.heap locs1 ⟨hP.kept (fun k q hk => q4 q.1 ((hP k q hk).lt) (fun z => ?_)), hS1, hN⟩
        obtain ⟨z1, z2⟩ := z
        have z2 : q.1 < b + 0 := z2
        omega
    · cases h1
  | _ => cases h1
end
