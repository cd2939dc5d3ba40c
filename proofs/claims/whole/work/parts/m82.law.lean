/-! THE LAW: what stays known, a call out of the law -/
def lX (z : Nat) : State → Prop := fun U => fhXc (gAa z) U ∧ ∀ q ∈ gnst, va_Nw (.methodLinkNest (fhrx q.1) q.2.1 (gy q.2.2) RX11) U
theorem lX_s {z : Nat} {A : Nat → Prop} (hA : ∀ q, A q → z ≤ q) : fhXs A (lX z) := by
  intro s U hX hW hz hq
  obtain ⟨⟨h1, adK, adV, h2, h3, h4, h6⟩, h5⟩ := hX
  have hk : ∀ a : Nat, a < s.heap.size → ¬ gAa z a → U.heap[a]? = s.heap[a]? := fun a ha hn => hq a ha (fun y => hn (hA a y))
  exact ⟨⟨va_Nw.warmF hW h1, adK, adV, vk_R.warm hW h2, (vk_S.moved hW.alike h3).kept hk, (va_Z.moved hW.alike h4).kept hk, (va_Zq.moved hW.alike h6).kept hk⟩, fun q hq => va_Nw.warmM hW (h5 q hq)⟩
theorem lX_E {z b : Nat} {Y : fhY} {l : Launch} {D : va_G} {cA : Nat → ClassId} (hb : z ≤ b) : fhEok Y (l, D, b, cA, lX z) := by
  intro s hX
  obtain ⟨⟨h1, adK, adV, h2, h3, h4, h6⟩, -⟩ := hX
  have hA : ∀ q, fhA b Y.2.2 q → gAa z q := fun q hq => Nat.le_trans hb hq.1
  exact ⟨h1, adK, adV, h2, vk_S.narrow h3 hA, va_Z.narrow h4 hA, va_Zq.narrow h6 hA⟩
section
variable {l : Launch} {D : va_G} {cA : Nat → ClassId} {p : Program} {e : Env} {s : State} {m : MethodId} {args : Array Value} {below : List Frame} {meth : Method} {c : Code} {H : Heap} {locs : List Loc} {cells slots : Nat} {Q : State → Prop} {pc : Nat} {ls : Array Slot}
theorem lcall {Y1 Y2 : fhY} {b1 b2 : Nat} {σ1 σ2 σ1' : fhM} {mi : fhMI} {n idx d' ci : Nat} {av rest : List Value} {r : Option Value} {cc : ByteArray} {nL : Nat}
    (hx : p.tables.exec = Jvm.exec) (hb : c.code = cc) (hml : c.maxLocals = nL) (hown : s.vm.findClass (fhrx 15) = some m.cls) (hts : ∀ w ∈ fhtbl, w.before args s = true) (hK : va_K D vwCl (fhtys cA) s) (hX : lX s.heap.size s)
    (hC : fhC Y1 (l, D, b1, cA, lX s.heap.size) d' mi (.ref 0 :: av) σ1 r σ1') (hM : fhMv mi n) (hlink : Cond.methodLink (fhrx 15) idx mi.1 ∈ fhtbl) (hd' : d' ≤ 1000) (hb1 : s.heap.size ≤ b1) (hdis : ∀ q, fhA b1 Y1.2.2 q → ¬ fhA b2 Y2.2.2 q)
    (hci : (vwCl[ci]?).map (fun q => q.1) = some mi.1.cls) (hg : (Nat.beq (Y1.1 0).1 0 && (Nat.beq (Y1.1 0).2.1 ci && (Nat.blt 0 Y1.2.2 && true))) = true) (hn : av.length = n) (hcat : (rest.map fun v => v.category).sum ≤ 8)
    (hl : ls.size = nL) (hd : decode cc pc = .ok (.invokevirtual idx, 3)) (hR : cells ≤ 600000 ∧ slots ≤ 7302250)
    (hP1 : va_P D vwCl (fhws Y1 b1 cA σ1) H) (hP2 : va_P D vwCl (fhws Y2 b2 cA σ2) H) (hS : va_S (gAa s.heap.size) s.heap H locs)
    (kk : ∀ H1 : Heap, va_P D vwCl (fhws Y1 b1 cA σ1') H1 → va_P D vwCl (fhws Y2 b2 cA σ2) H1 → va_S (gAa s.heap.size) s.heap H1 [] → W p l e room_1 s m args below meth c H1 [] cells slots Q (F0 m (pc + 3) ls ((r.map (fhcv b1)).toList ++ rest))) :
    W p l e room_1 s m args below meth c H locs cells slots Q (F0 m pc ls ((fhcs b1 av).reverse ++ .ref b1 :: rest)) := by
  obtain ⟨y, cy, ny, ry⟩ := mi
  obtain ⟨⟨h1, h2, h3, h4, h5⟩, hMi, hMs⟩ := hM
  obtain ⟨ha, -, -, -⟩ := fhobj_at (b := b1) (cA := cA) (σ := σ1) hg
  cases hq : vwCl[ci]? with
  | none => rw [hq] at hci; cases hci
  | some q =>
    rw [hq] at hci
    have hcls : q.1 = y.cls := Option.some.inj hci
    have hrc := va_recv hK hP1 hq ha
    rw [hcls] at hrc
    have cb : CallB room_1 s args (fhrx 15) idx y cy ny ry (.code y cy ny ry :: fhtbl) (fhrm d') 0 0 n := by
      refine callB_of n hts (fun w hw => ?_) rfl rfl rfl (hts _ h2) (hts _ hlink) ⟨h3.1, h3.2, h4⟩ ⟨?_, ?_⟩
      · rcases List.mem_cons.mp hw with rfl | hw
        · exact fhgood _ h1
        · exact fhgood w hw
      · show d' + 1 ≤ 2048
        omega
      · show 8 + (ny + 11) + 40 * d' ≤ 84000
        omega
    have hsub : ∀ q, fhA b1 Y1.2.2 q → gAa s.heap.size q := fun q hq => Nat.le_trans hb1 hq.1
    have hXs : fhXs (fhA b1 Y1.2.2) (lX s.heap.size) := lX_s hsub
    have hXz : ∀ U : State, U.heap = H → s.WarmedH U.vm → lX s.heap.size U := fun U hU hW => lX_s (A := gAa s.heap.size) (fun _ h => h) s U hX hW (by rw [hU]; exact hS.1) (by rw [hU]; exact hS.2.1)
    refine ggo (b := s.heap.size) (va_runV (As := fhcs b1 av) (rest := rest) (n := n) ⟨hx, hb, hml, hown, hts⟩ hC ⟨cb, hts _ hMi, hts _ hMs⟩
      ⟨fun a U g mk q => by obtain ⟨q0, qP, qK, qX, qs⟩ := q; exact ⟨q0, qP, va_K.moved (u := U) (U := U.calling g mk a) (Vm.Alike.refl U.vm) qK, qs U (U.calling g mk a) qX (State.WarmedH.refl U) (Nat.le_refl _) (fun _ _ _ => rfl), qs⟩, hrc, fun U hU hW => ⟨rfl, by rw [hU]; exact hP1, va_K.moved hW.alike hK, hXz U hU hW, hXs⟩⟩
      rfl (by unfold fhcs; rw [List.length_map]; exact hn) hl rfl ?_ hd ⟨hR.1, hR.2⟩) hsub (fun st₀ v t h => ⟨h.2.2.1, fun q h1 h2 => h.2.2.2 q h1 (fun z => h2 (hsub q z))⟩) hS (fun v st₀ t locs1 h0 hq hS1 => ?_)
    · show 2 * 0 + _ ≤ 8
      omega
    · obtain ⟨q1, q2, q3, q4⟩ := hq
      cases q1
      rw [h0] at q3 q4
      refine va_forget (fun q hq => hS1.2.2 q hq) (kk t.heap q2 (hP2.kept (fun k q hk => q4 q.1 ((hP2 k q hk).lt) (fun z => hdis q.1 z (fhws_D.2 k q hk)))) ⟨hS1.1, hS1.2.1, fun _ h => by cases h⟩)
end
