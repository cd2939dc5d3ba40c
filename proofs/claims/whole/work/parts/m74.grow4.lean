theorem gdv (b : Nat) (t : FieldType) : fhcv b (defaultValue t) = defaultValue t := by cases t <;> rfl
theorem gdf_cv (b x : Nat) : (gdf x).map (fhcv b) = gdf x := by
  unfold gdf
  rw [List.map_map]
  exact List.map_congr_left (fun j _ => gdv b _)
section
variable {l : Launch} {D : va_G} {b : Nat} {cA : Nat → ClassId} {X : State → Prop} {p : Program} {e : Env} {R : Room} {s : State} {m : MethodId} {args : Array Value} {below : List Frame} {meth : Method} {c : Code} {H : Heap} {locs : List Loc} {cl sl : Nat} {Q : State → Prop} {x pc : Nat} {ls : Array Slot} {lv : List (Nat × Value)} {st st' : List Value} {w w' : List gE} {k dc ds : Nat} {i : Instr}
theorem ggo {mc ms : Nat} {rest st0 : List Value} {Qa : State → Outcome → State → Prop} {free : Addr → Prop} (hr : va_Run p l e R s m args below meth c H locs cl sl mc ms (F0 m pc ls st0) rest Qa free) (hfree : ∀ q, free q → gAa b q) (hF : ∀ st₀ v t, Qa st₀ (.returned v) t → va_F (gAa b) st₀ t) (hS : va_S (gAa b) s.heap H locs)
    (kk : ∀ (v : Option Value) (st₀ t : State) (locs1 : List Loc), st₀.heap = H → Qa st₀ (.returned v) t → va_S (gAa b) s.heap t.heap locs1 → W p l e R s m args below meth c t.heap locs1 (cl + mc) (sl + ms) Q (F0 m (pc + 3) ls (v.toList ++ rest))) : W p l e R s m args below meth c H locs cl sl Q (F0 m pc ls st0) := by
  intro T hT Y
  obtain ⟨v, st₀, t, T', L, h0, Y', hL, e1, e2, hq, st⟩ := hr T hT Y
  obtain ⟨hz, hk⟩ := hF _ _ _ hq
  rw [h0] at hz hk
  obtain ⟨t2, a1, b1⟩ := kk v st₀ t (locs ++ L) h0 hq ⟨Nat.le_trans hS.1 hz, fun q h1 h2 => by rw [hk q (Nat.lt_of_lt_of_le h1 hS.1) h2]; exact hS.2.1 q h1 h2, fun q hq => by
    rcases List.mem_append.mp hq with h | h
    · exact hS.2.2 q h
    · exact hfree _ (hL q h)⟩ T' e1 Y'
  exact ⟨t2, st t2 a1, b1⟩
end
