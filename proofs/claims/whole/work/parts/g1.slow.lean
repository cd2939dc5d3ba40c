/-! ANEW: slowest, odds -/
def slS (W : gW) (i : Nat) (o : Option (Nat × Nat)) (r : Nat) : Option (Nat × Nat) := if 20 < fk W r i then o else match o with
  | none => some (r, fk W r i)
  | some x => if fk W r i ≤ x.2 then o else some (r, fk W r i)
def slL (W : gW) (i : Nat) (l : List Nat) : Option (Nat × Nat) := l.foldl (slS W i) none
theorem slL_s (W : gW) (i : Nat) (l : List Nat) (x : Nat) : slL W i (l ++ [x]) = slS W i (slL W i l) x := by
  unfold slL
  rw [List.foldl_append]
  rfl
def o1 (o : Option (Nat × Nat)) : Int32 := oI (o.map (fun x => x.1))
def o2 (o : Option (Nat × Nat)) : Int32 := oI (o.map (fun x => x.2))
theorem slL_fk {W : gW} {i : Nat} {x : Nat × Nat} : ∀ k (l : List Nat), slL W i (l.take k) = some x → x.2 = fk W x.1 i ∧ x.1 ∈ l
  | 0, l, h => by rw [List.take_zero] at h; cases h
  | k + 1, l, h => by
    rcases Nat.lt_or_ge k l.length with c | c
    · rw [take_s c, slL_s] at h
      unfold slS at h
      split at h
      · exact slL_fk k l h
      · split at h
        · cases h
          exact ⟨rfl, getD_mem c⟩
        · rename_i y e
          split at h
          · exact slL_fk k l h
          · cases h
            exact ⟨rfl, getD_mem c⟩
    · rw [List.take_of_length_le (by omega)] at h
      rw [← List.take_of_length_le (show l.length ≤ k from c)] at h
      exact slL_fk k l h
def slwV (W : gW) (i : Nat) (w : Int32) : Int32 := if w = 0 then o1 (slL W i (rl W.N W.al)) else o2 (slL W i (rl W.N W.al))
def slwA (W : gW) (v w : Int32) : Int32 := if inB v W.g ∧ inB w 2 then slwV W v.toInt.toNat w else -1
theorem o2_le {o : Option (Nat × Nat)} {f : Nat} (hf : f < 2 ^ 31) (ho : ∀ x, o = some x → x.2 < 2 ^ 31) : (nI f ≤ o2 o) = (match o with | none => False | some x => f ≤ x.2) := by
  cases o with
  | none => exact eq_false (fun z => by
      have := nI_pos' hf
      rw [Int32.le_iff_toInt_le] at z this
      have h1 : (o2 none).toInt = -1 := by decide
      have h2 : (0 : Int32).toInt = 0 := by decide
      omega)
  | some x => exact nI_leP hf (ho x rfl)
theorem slS_2 {W : gW} {i r : Nat} {o : Option (Nat × Nat)} (ho : ∀ x, o = some x → x.2 < 2 ^ 31) (a : Bool) : (if 20 < fk W r i then (if a = true then o1 o else o2 o) else (if nI (fk W r i) ≤ o2 o then (if a = true then o1 o else o2 o) else (if a = true then nI r else nI (fk W r i)))) = if a = true then o1 (slS W i o r) else o2 (slS W i o r) := by
  have hf := fk_le W r i
  unfold slS
  by_cases c : 20 < fk W r i
  · rw [if_pos c, if_pos c]
  · rw [if_neg c, if_neg c]
    cases o with
    | none =>
      rw [if_neg (by rw [o2_le (by omega) ho]; exact id)]
      cases a <;> rfl
    | some x =>
      (try dsimp only)
      by_cases d : fk W r i ≤ x.2
      · rw [if_pos (by rw [o2_le (by omega) ho]; exact d), if_pos d]
      · rw [if_neg (by rw [o2_le (by omega) ho]; exact d), if_neg d]
        cases a <;> rfl
section
variable {W : gW}
theorem slL_b {i : Nat} (k : Nat) (l : List Nat) : ∀ x, slL W i (l.take k) = some x → x.2 < 2 ^ 31 := fun x h => by
  rw [(slL_fk k l h).1]
  have := fk_le W x.1 i
  omega
theorem c_slowRow (hW : wOK W) {σ : fhM} (htb : tbF W W.N σ) (h : fkT W σ) {i : Nat} (hi : i < W.g) : f_X1_slowestRow (nI i) σ = some (o1 (slL W i (rl W.N W.al))) := by
  have hN10 := hW.2.1
  have hll := rl_len W.N W.al
  have h12 := htb.2.2.2.2.1
  have h55 := htb.2.2.2.2.2.2.2.2.2.2.2
  refine wq_eq ?_
  unfold f_X1_slowestRow
  refine wq_for (R := fun k x => x = (o1 (slL W i ((rl W.N W.al).take k)), o2 (slL W i ((rl W.N W.al).take k)), nI k)) 0 (rl W.N W.al).length (Nat.zero_le _) ?_ ?_ rfl
  · rintro k x - hk rfl
    (try dsimp only)
    unfold f_X1_slowestRow_7 f_X1_slowestRow_67
    have hxm := getD_mem hk
    obtain ⟨x1, x2⟩ := rl_mem.mp hxm
    have hf := fk_le W ((rl W.N W.al).getD k 0) i
    have hb := slL_b (W := W) (i := i) k (rl W.N W.al)
    rw [h12, if_neg (nI_ge hk (by omega)), cg54 (by omega), h55 k hk, c_first hW h x2 hi, take_s hk, slL_s, nI_1 k, wq_some, fhK_l]
    have e1 := slS_2 (W := W) (i := i) (r := (rl W.N W.al).getD k 0) hb true
    have e2 := slS_2 (W := W) (i := i) (r := (rl W.N W.al).getD k 0) hb false
    rw [if_pos rfl, if_pos rfl, if_pos rfl] at e1
    rw [if_neg (show ¬ false = true by decide), if_neg (show ¬ false = true by decide), if_neg (show ¬ false = true by decide)] at e2
    rw [← e1, ← e2]
    have e20 : ((20 : Int32) < nI (fk W ((rl W.N W.al).getD k 0) i)) = (20 < fk W ((rl W.N W.al).getD k 0) i) := nI_ltP (a := 20) (by omega) (by omega)
    simp only [e20]
  · rintro x rfl
    (try dsimp only)
    unfold f_X1_slowestRow_7
    rw [h12, if_pos (nI_le (Nat.le_refl _) (by omega)), List.take_length, wq_some, fhK_r]
theorem anP_rf {σ : fhM} : anP σ σ := ⟨⟨fun _ _ _ => ⟨rfl, rfl⟩, rfl⟩, fun _ _ _ _ => rfl⟩
theorem inB_2 {w : Int32} {c : Nat} (hc : c + 1 < 2 ^ 31) : (¬ w < 0 ∧ w ≤ nI c) ↔ inB w (c + 1) := by
  rw [lt0_P, le_n2P w (by omega)]
  exact ⟨fun z => ⟨by omega, by omega⟩, fun z => ⟨by have := z.1; omega, by have := z.2; omega⟩⟩
theorem c_slowest (hW : wOK W) {σ : fhM} (htb : tbF W W.N σ) (hz : psF σ) (hne : 0 < W.g → rl W.N W.al ≠ []) (h : anC W σ) (v w : Int32) : wq (f_X11_slowest v w σ) (fun r => r.1 = slwA W v w ∧ anC W r.2 ∧ anP σ r.2) := by
  have hg5 := hW.1
  unfold f_X11_slowest slwA
  by_cases c : inB v W.g
  · rw [if_pos (by rw [c_isG v (by omega) htb.2.1]; exact c)]
    obtain ⟨e, hi⟩ := inB_e c
    by_cases d : inB w 2
    · obtain ⟨d1, d2⟩ := (inB_2 (c := 1) (by omega)).mpr d
      rw [if_neg d1, if_pos (show w ≤ (1 : Int32) from d2), if_pos ⟨c, d⟩, wq_bind]
      refine wq_mono (c_prepN hW htb hz (hne (by omega)) h) ?_
      rintro s ⟨a1, a2, a3, a4⟩
      rw [(congrArg (fun a => f_X1_slowestRow a s) e).trans (c_slowRow hW (tbF_e htb a4.1) a3 hi), wq_bind, wq_some]
      unfold slwV
      cases hs : slL W v.toInt.toNat (rl W.N W.al) with
      | none =>
        rw [if_pos (show o1 none = (-1 : Int32) from rfl), wq_some]
        exact ⟨by split <;> rfl, a1, a4⟩
      | some x =>
        obtain ⟨f1, f2⟩ := slL_fk (rl W.N W.al).length (rl W.N W.al) (by rw [List.take_length]; exact hs)
        obtain ⟨g1, g2⟩ := rl_mem.mp f2
        have hN := hW.2.1
        rw [if_neg (show ¬ o1 (some x) = (-1 : Int32) from ph_m1n (a := x.1) (by omega))]
        by_cases q : w = 0
        · rw [if_pos q, if_pos q, wq_some]
          exact ⟨rfl, a1, a4⟩
        · rw [if_neg q, if_neg q, wq_some]
          refine ⟨?_, a1, a4⟩
          (try dsimp only)
          have := c_first hW a3 g2 hi
          rw [← e] at this
          rw [show o1 (some x) = nI x.1 from rfl, this, ← f1]
          rfl
    · rw [if_neg (c := inB v W.g ∧ inB w 2) (fun z => d z.2)]
      by_cases d1 : w < 0
      · rw [if_pos d1, wq_some]
        exact ⟨rfl, h, anP_rf⟩
      · rw [if_neg d1, if_neg (fun (d2 : w ≤ (1 : Int32)) => d ((inB_2 (c := 1) (by omega)).mp ⟨d1, d2⟩)), wq_some]
        exact ⟨rfl, h, anP_rf⟩
  · rw [if_neg (by rw [c_isG v (by omega) htb.2.1]; exact c), if_neg (c := inB v W.g ∧ inB w 2) (fun z => c z.1), wq_some]
    exact ⟨rfl, h, anP_rf⟩
end
