/-! THE WORLD OF A PARLOUR: marks, guests, rows, facts; what is seen alike, which rows are allowed, which facts hold -/
abbrev gW : Type := (Nat × Nat × Nat × Nat) × (Nat → Nat → Nat) × (Nat → Bool) × (Nat → Nat) × (Nat → Nat)
abbrev gW.m (W : gW) : Nat := W.1.1
abbrev gW.g (W : gW) : Nat := W.1.2.1
abbrev gW.N (W : gW) : Nat := W.1.2.2.1
abbrev gW.F (W : gW) : Nat := W.1.2.2.2
abbrev gW.vw (W : gW) : Nat → Nat → Nat := W.2.1
abbrev gW.al (W : gW) : Nat → Bool := W.2.2.1
abbrev gW.tr (W : gW) : Nat → Nat := W.2.2.2.1
abbrev gW.sb (W : gW) : Nat → Nat := W.2.2.2.2
def mkr (m r i : Nat) : Nat := r / m ^ i % m
def gW.mk (W : gW) (r i : Nat) : Nat := mkr W.m r i
def sbP (p : fhPS) (i : Nat) : Nat := smk i (p.bl i) &&& (2 ^ p.gs.length - 1)
def vws (p : fhPS) (r i k : Nat) : List Nat := (List.range k).map (fun k => if (sbP p i).testBit k = true then mkr p.m r k else 0)
def vwP (p : fhPS) (r i : Nat) : Nat := wsum p.m (vws p r i p.gs.length)
noncomputable def wOf (p : fhPS) : gW := ((p.m, p.gs.length, p.m ^ p.gs.length, p.fa.length), vwP p, fun r => decide (r < p.m ^ p.gs.length) && alw p r, tru p, sbP p)
/-- ahead of any parlour -/
def wNo : gW := ((0, 0, 0, 0), fun _ _ => 0, fun _ => false, fun _ => 0, fun _ => 0)
def wOK (W : gW) : Prop := W.g ≤ 5 ∧ W.N ≤ 1024 ∧ W.F ≤ 8 ∧ W.m ≤ 4 ∧ (∀ r i, r < W.N → W.mk r i < 4) ∧ (∀ r i, r < W.N → W.vw r i < W.N) ∧ (∀ r, W.al r = true → r < W.N) ∧ (∀ r, W.tr r < 2 ^ W.F) ∧ (∀ i, W.sb i < 2 ^ W.g) ∧ (0 < W.N → 2 ≤ W.m)
/-- the numbers below n with a property, rising -/
def rl (n : Nat) (L : Nat → Bool) : List Nat := (List.range n).filter L
theorem rl_s (n : Nat) (L : Nat → Bool) : rl (n + 1) L = if L n = true then rl n L ++ [n] else rl n L := by
  unfold rl
  rw [List.range_succ, List.filter_append]
  cases h : L n
  · rw [if_neg (by decide)]
    simp [h]
  · rw [if_pos rfl]
    simp [h]
theorem rl_mem {n : Nat} {L : Nat → Bool} {r : Nat} : r ∈ rl n L ↔ r < n ∧ L r = true := by
  unfold rl
  rw [List.mem_filter, List.mem_range]
theorem rl_len (n : Nat) (L : Nat → Bool) : (rl n L).length ≤ n := by
  have := List.length_filter_le L (List.range n)
  rw [List.length_range] at this
  exact this
theorem rl_get {n : Nat} {L : Nat → Bool} {k : Nat} (h : k < (rl n L).length) : (rl n L).getD k 0 < n ∧ L ((rl n L).getD k 0) = true := by
  have : (rl n L)[k]? = some (rl n L)[k] := List.getElem?_eq_getElem h
  rw [List.getD_eq_getElem?_getD, this]
  exact rl_mem.mp (List.mem_of_getElem? this)
theorem vws_len (p : fhPS) (r i k : Nat) : (vws p r i k).length = k := by unfold vws; rw [List.length_map, List.length_range]
theorem vws_s (p : fhPS) (r i k : Nat) : vws p r i (k + 1) = vws p r i k ++ [if (sbP p i).testBit k = true then mkr p.m r k else 0] := by
  unfold vws
  rw [List.range_succ, List.map_append]
  rfl
theorem vws_lt {p : fhPS} (hm : 2 ≤ p.m) (r i k : Nat) : wsum p.m (vws p r i k) < p.m ^ k := by
  have := wsum_lt (m := p.m) (l := vws p r i k) (fun x hx => by
    unfold vws at hx
    obtain ⟨j, _, rfl⟩ := List.mem_map.mp hx
    split
    · exact Nat.mod_lt _ (by omega)
    · omega)
  rw [vws_len] at this
  exact this
theorem sbP_lt (p : fhPS) (i : Nat) : sbP p i < 2 ^ p.gs.length := by
  unfold sbP
  have h1 := Nat.two_pow_pos p.gs.length
  have h2 : smk i (p.bl i) &&& (2 ^ p.gs.length - 1) ≤ 2 ^ p.gs.length - 1 := Nat.and_le_right
  omega
theorem wOf_ok {T : tT} {p : fhPS} {k : Nat} (h : sOK T p k) : wOK (wOf p) := by
  obtain ⟨w1, w2⟩ := sOK_wrn h
  obtain ⟨o1, o2, o3, o4, o5, o6, o7, o8, o9, o10, -⟩ := h
  refine ⟨o5, w2, o9, o4, fun r i _ => ?_, fun r i _ => vws_lt o3 r i _, fun r hr => ?_, fun r => ?_, fun i => sbP_lt p i, fun _ => o3⟩
  · have : mkr p.m r i < p.m := Nat.mod_lt _ (by omega)
    show mkr p.m r i < 4
    omega
  · have hr : (decide (r < p.m ^ p.gs.length) && alw p r) = true := hr
    rw [Bool.and_eq_true, decide_eq_true_iff] at hr
    exact hr.1
  · have := bitsN_lt (p.fa.map (hlP p r)) 0
    rw [List.length_map, Nat.zero_add] at this
    exact this
theorem wNo_ok : wOK wNo := ⟨Nat.zero_le _, Nat.zero_le _, Nat.zero_le _, Nat.zero_le _, fun r i h => absurd h (Nat.not_lt_zero _), fun r i h => absurd h (Nat.not_lt_zero _), fun r h => (by cases h), fun r => Nat.le_refl _, fun i => Nat.le_refl _, fun h => absurd h (Nat.not_lt_zero _)⟩
