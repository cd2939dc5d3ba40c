/-! CONSTRUCTORS: whole runs -/
def gRm (d mc ms : Nat) : Room := { frames := d, cells := mc, slots := ms, locals := 40 * d + 80 }
def gQ (D : va_G) (b : Nat) (cA : Nat → ClassId) (w' : List gE) : Array Value → State → Outcome → State → Prop := fun _ st oc t => oc = .returned none ∧ va_P D vwCl (gws b cA w') t.heap ∧ va_F (gAa b) st t
theorem gpop_ok : ∀ (n : Nat) {a0 st av r : List Value} {a : Nat}, gpop n a0 st = some (av, a, r) → ∃ pre : List Value, st = pre ++ .ref a :: r ∧ av = pre.reverse ++ a0 ∧ pre.length = n
  | 0, a0, st, av, r, a, h => by
    unfold gpop at h
    split at h
    · cases h
      exact ⟨[], rfl, rfl, rfl⟩
    · rename_i hn
      cases hn
    · cases h
  | n + 1, a0, [], av, r, a, h => by cases h
  | n + 1, a0, v :: st, av, r, a, h => by
    obtain ⟨pre, h1, h2, h3⟩ := gpop_ok n (show gpop n (v :: a0) st = some (av, a, r) from h)
    exact ⟨v :: pre, by rw [h1]; rfl, by rw [h2, List.reverse_cons, List.append_assoc]; rfl, by rw [List.length_cons, h3]⟩
section
variable {l : Launch} {D : va_G} {b : Nat} {cA : Nat → ClassId} {X : State → Prop}
theorem gmet {n c mc ms : Nat} {av : List Value} {w w' : List gE} (hc : c < 13) (hcat : fhcat av ≤ gnl c) (hNn : ∀ U, X U → ∀ q ∈ gnst, va_Nw (.methodLinkNest (fhrx q.1) q.2.1 (gy q.2.2) RX11) U) (hw0 : 0 < w.length)
    (run : ∀ {p : Program} {e : Env} {s : State} {m : MethodId} {args : Array Value} {below : List Frame} {meth : Method} {cd : Code} {H : Heap} {locs : List Loc} {ls : Array Slot}, gOk D b cA X c p s m args meth cd → lv_has ls cd.maxLocals (fhcl b (lv_args 0 av)) → gMem D b cA s H locs w 0 → W p l e (gRm n mc ms) s m args below meth cd H locs 0 0 (MQ below (gQ D b cA w') args s mc ms (gAa b)) (F0 m 0 ls [])) :
    Met l (gy c) (.code (gy c) (gcd c) (gnl c) none :: fhtbl) (gRm n mc ms) (va_Pc (fhcs b av) (fun U => U.heap.size = b + w.length ∧ va_P D vwCl (gws b cA w) U.heap ∧ va_K D vwCl (fhtys cA) U ∧ X U ∧ fhXs (gAa b) X)) (gQ D b cA w') mc ms (gAa b) := by
  obtain ⟨k1, k2, k3, k4, k5, k6, k7⟩ := gcls c hc
  refine Met.ofW (cc := gcd c) (maxL := gnl c) (ret := none) k3 rfl ?_
  intro p e s m args below meth cd s₁ B hml hv
  obtain ⟨rfl, hz, hP, hK, hX, hXs⟩ := hv
  have hts : ∀ w ∈ fhtbl, w.before (fhcs b av).toArray s = true := fun w h => atoms_spec (ws := .code (gy c) (gcd c) (gnl c) none :: fhtbl) B.pre w (List.mem_cons_of_mem _ h)
  have hown : s.vm.findClass (fhrx c) = some m.cls := k1 ▸ findClass_of_methodNamed B.named
  have hl := lv_entry (fhcs b av) (n := gnl c) (by rw [fhcat_sl]; exact hcat)
  rw [lg_entry_eq]
  generalize (lg_sl (fhcs b av) ++ List.replicate (gnl c - (lg_sl (fhcs b av)).length) Slot.unset).toArray = ls at hl ⊢
  rw [fhlv b] at hl
  exact run ⟨B.exec, B.bytes, hml, hown, hts, hK, B.returns, B.notSynchronized, (name_of_methodNamed B.named B.method).1.trans k2, by omega, hc, hX, hXs, hNn⟩ (by rw [hml]; exact hl) ⟨hP, va_S.rf, by omega⟩
theorem gev_ok : ∀ (n : Nat) {d x pc cl sl mc ms : Nat} {lv : List (Nat × Value)} {st : List Value} {w w' : List gE} {p : Program} {e : Env} {s : State} {m : MethodId} {args : Array Value} {below : List Frame} {meth : Method} {c : Code} {H : Heap} {locs : List Loc} {ls : Array Slot}, gev n x pc lv st w cl sl = some (w', mc, ms) → n ≤ d → gOk D b cA X x p s m args meth c → lv_has ls c.maxLocals (fhcl b lv) → gMem D b cA s H locs w cl → W p l e (gRm d mc ms) s m args below meth c H locs cl sl (MQ below (gQ D b cA w') args s mc ms (gAa b)) (F0 m pc ls (fhcs b st))
  | 0, d, x, pc, cl, sl, mc, ms, lv, st, w, w', p, e, s, m, args, below, meth, c, H, locs, ls, h, hnd, ho, hl, hM => by cases h
  | n + 1, d, x, pc, cl, sl, mc, ms, lv, st, w, w', p, e, s, m, args, below, meth, c, H, locs, ls, h, hnd, ho, hl, hM => by
    unfold gev at h
    split at h
    · cases h
    · rename_i i len hd
      split at h
      · rename_i k st2 w2 dc ds h1
        obtain ⟨hb, h⟩ := gbif h
        rw [gfn_e, gfz_e] at h
        have hb := Nat.eq_of_beq_eq_true hb
        subst hb
        obtain ⟨g1, g2, g3⟩ := gev_len n h
        exact gs1_ok (R := gRm d mc ms) ho hl hd h1 hM ⟨g1, g2, (by show 1 ≤ d; omega), (by show 80 ≤ 40 * d + 80; omega)⟩ (fun H1 locs1 hM1 => gev_ok n h (by omega) ho hl hM1)
      · obtain ⟨hx, hb0, hml, hown, hts, hK, hrt, hlk, hin, hbs, hx13, hX, hXs, hNn⟩ := ho
        have ho : gOk D b cA X x p s m args meth c := ⟨hx, hb0, hml, hown, hts, hK, hrt, hlk, hin, hbs, hx13, hX, hXs, hNn⟩
        obtain ⟨hP, hS, hN⟩ := hM
        split at h
        · obtain ⟨hb, h⟩ := gbif h
          cases h
          obtain ⟨e1, e2⟩ := fhand hb
          have e1 := Nat.eq_of_beq_eq_true e1
          subst e1
          cases st with
          | cons v r => cases e2
          | nil => exact W.vret hx hb0 hrt (fun t ht hW => ⟨rfl, by rw [ht]; exact hP, hS.F ht⟩) hS.2.2 hd hlk
        · rename_i j _
          split at h
          · cases h
          · rename_i nst c' hcl
            split at h
            · cases h
            · rename_i av a r hpop
              split at h
              · cases h
              · rename_i w2 dc ds h2
                obtain ⟨hb, h7⟩ := gbif h
                clear h
                rw [gfn_e, gfz_e] at h7
                have h := h7
                clear h7
                obtain ⟨e1, hb⟩ := fhand hb
                obtain ⟨e2, e3⟩ := fhand hb
                have e1 := Nat.eq_of_beq_eq_true e1
                subst e1
                have e2 := Nat.le_of_ble_eq_true e2
                have e3 := Nat.le_of_ble_eq_true e3
                obtain ⟨g1, g2, g3⟩ := gev_len n h
                obtain ⟨pre, hst, hav, hpl⟩ := gpop_ok _ hpop
                obtain ⟨-, -, g6⟩ := gev_len n h2
                have hw0 : 0 < w.length := by omega
                rw [List.append_nil] at hav
                have hre : fhcs b st = (fhcs b av).reverse ++ .ref (b + a) :: fhcs b r := by
                  rw [hst, hav]
                  unfold fhcs
                  rw [List.map_append, List.map_reverse, List.reverse_reverse]
                  rfl
                refine gW_sz (fun hz => ?_)
                have hlow := gws_lt hP hw0
                have hsz : H.size = b + w.length := by omega
                rw [hre]
                have hc13 : c' < 13 := by
                  unfold gcl at hcl
                  split at hcl
                  · rename_i c2 hg
                    cases hcl
                    exact (glkt_ok _ (gfd_m hg)).1
                  · split at hcl
                    · rename_i c2 hg
                      cases hcl
                      exact gnst_ok _ (gfd_m hg)
                    · cases hcl
                obtain ⟨k1, k2, k3, k4, k5, k6, k7⟩ := gcls c' hc13
                obtain ⟨i1, i2, i3, i4⟩ := gin c' hc13
                have hMet := gmet (l := l) (D := D) (b := b) (cA := cA) (X := X) (n := n) (mc := dc) (ms := ds) (w' := w2) hc13 e3 hNn hw0 (fun ho2 hl2 hM2 => gev_ok n h2 (Nat.le_refl _) ho2 hl2 hM2)
                have hG : GoodIn fhtbl (.code (gy c') (gcd c') (gnl c') none :: fhtbl) := fun w hw => by
                  rcases List.mem_cons.mp hw with rfl | hw
                  · exact fhgood _ i1
                  · exact fhgood w hw
                have hini : (Cond.initialized (gy c').cls).before args s = true := by
                  rw [k1]
                  exact hts _ i3
                have hpre : PreS s H (va_Pc (fhcs b (.ref a :: av)) (fun U => U.heap.size = b + w.length ∧ va_P D vwCl (gws b cA w) U.heap ∧ va_K D vwCl (fhtys cA) U ∧ X U ∧ fhXs (gAa b) X)) (.ref (b + a) :: fhcs b av) := ⟨fun a' U g mk q => by
                  obtain ⟨q0, qz, qP, qK, qX, qs⟩ := q
                  exact ⟨q0, qz, qP, va_K.moved (u := U) (U := U.calling g mk a') (Vm.Alike.refl U.vm) qK, qs U (U.calling g mk a') qX (State.WarmedH.refl U) (Nat.le_refl _) (fun _ _ _ => rfl), qs⟩, fun U hU hW => ⟨rfl, by rw [hU]; exact hsz, by rw [hU]; exact hP, va_K.moved hW.alike hK, hXs s U hX hW (by rw [hU]; exact hS.1) (by rw [hU]; exact hS.2.1), hXs⟩⟩
                have hcat8 : 2 * 0 + ((fhcs b r).map fun v => v.category).sum ≤ 8 := by
                  rw [fhcs_sum]
                  omega
                have hal : (fhcs b av).length = gnp c' := by
                  unfold fhcs
                  rw [List.length_map, hav, List.length_reverse, hpl]
                have fin : ∀ (v : Option Value) (st₀ t : State) (locs1 : List Loc), st₀.heap = H → gQ D b cA w2 (Value.ref (b + a) :: fhcs b av).toArray st₀ (.returned v) t → va_S (gAa b) s.heap t.heap locs1 → W p l e (gRm d mc ms) s m args below meth c t.heap locs1 (cl + dc) (sl + ds) (MQ below (gQ D b cA w') args s mc ms (gAa b)) (F0 m (pc + 3) ls (v.toList ++ fhcs b r)) := fun v st₀ t locs1 h0 hq hS1 => by
                  obtain ⟨q1, q2, -⟩ := hq
                  cases q1
                  exact gev_ok n h (by omega) ho hl ⟨q2, hS1, by omega⟩
                have hfr : (gRm n dc ds).frames + 1 ≤ (gRm d mc ms).frames := by
                  show n + 1 ≤ d
                  exact hnd
                have hlo : 8 + (gnl c' + 11) + (gRm n dc ds).locals ≤ (gRm d mc ms).locals := by
                  show 8 + (gnl c' + 11) + (40 * n + 80) ≤ 40 * d + 80
                  omega
                unfold gcl at hcl
                split at hcl
                · rename_i c2 hg
                  cases hcl
                  obtain ⟨-, hlink⟩ := glkt_ok _ (gfd_m hg)
                  have cb : CallB (gRm d mc ms) s args (fhrx x) j (gy c') (gcd c') (gnl c') none (.code (gy c') (gcd c') (gnl c') none :: fhtbl) (gRm n dc ds) dc ds (gnp c') := callB_of (gnp c') hts hG rfl rfl rfl hini (hts _ hlink) ⟨k4, k5, k6⟩ ⟨hfr, hlo⟩
                  exact ggo (b := b) (va_runI (As := fhcs b av) (rest := fhcs b r) (n := gnp c') ⟨hx, hb0, hml, hown, hts⟩ hMet ⟨cb, k2, hts _ i2⟩ hpre rfl hal (hl.1.trans hml) rfl hcat8 hd ⟨g1, g2⟩) (fun _ h => h) (fun _ _ _ h => h.2.2) hS fin
                · split at hcl
                  · rename_i c2 hg
                    cases hcl
                    have cb : va_CN (gRm d mc ms) s args (fhrx x) j (gy c') RX11 (gcd c') (gnl c') none (.code (gy c') (gcd c') (gnl c') none :: fhtbl) (gRm n dc ds) dc ds (gnp c') := va_cnB (gnp c') hts hG rfl rfl rfl (hNn s hX _ (gfd_m hg)) hini ⟨k4, k5, k6⟩ ⟨hfr, hlo⟩
                    exact ggo (b := b) (va_runIN (As := fhcs b av) (rest := fhcs b r) (n := gnp c') ⟨hx, hb0, hml, hown, hts⟩ hMet ⟨cb, k2, hts _ i2⟩ hpre rfl hal (hl.1.trans hml) rfl hcat8 hd ⟨g1, g2⟩) (fun _ h => h) (fun _ _ _ h => h.2.2) hS fin
                  · cases hcl
        · cases h
end
