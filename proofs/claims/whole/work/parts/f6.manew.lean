/-! ANEW in the reference: groups by the first row of a key -/
def ldI (W : gW) (K : Nat → Nat) (B x i : Nat) (q3 q1 : Nat → Int32) : Prop := ∀ k, k < B → (q3 k = -1 ∧ ∀ r, r < x → W.al r = true → K r ≠ k) ∨ (∃ q, q < x ∧ q3 k = nI q ∧ W.al q = true ∧ K q = k ∧ ∀ r, r < x → W.al r = true → K r = k → q1 (1024 * i + r) = nI q)
theorem ld_no {W : gW} {K : Nat → Nat} {B x i : Nat} {q3 q1 : Nat → Int32} (h : ldI W K B x i q3 q1) (ha : ¬ W.al x = true) : ldI W K B (x + 1) i q3 q1 := fun k hk => by
  have no : ∀ r, r < x + 1 → W.al r = true → r < x := fun r hr hal => by
    rcases Nat.lt_or_ge r x with c | c
    · exact c
    · have : r = x := by omega
      rw [this] at hal
      exact absurd hal ha
  rcases h k hk with ⟨a, b⟩ | ⟨q, a, b, c, d, e⟩
  · exact Or.inl ⟨a, fun r hr hal => b r (no r hr hal) hal⟩
  · exact Or.inr ⟨q, by omega, b, c, d, fun r hr hal => e r (no r hr hal) hal⟩
theorem ld_new {W : gW} {K : Nat → Nat} {B x i : Nat} {q3 q1 : Nat → Int32} (h : ldI W K B x i q3 q1) (ha : W.al x = true) (hx : x < 1024) (hm : q3 (K x) = -1) (hB : K x < B) : ldI W K B (x + 1) i (fun j => if j = K x then nI x else q3 j) (fun j => if j = 1024 * i + x then nI x else q1 j) := fun k hk => by
  have hno : ∀ r, r < x → W.al r = true → K r ≠ K x := by
    rcases h (K x) hB with ⟨_, b⟩ | ⟨q, a, b, _⟩
    · exact b
    · rw [b] at hm
      exact absurd hm (ph_m1n (by omega))
  by_cases e : k = K x
  · refine Or.inr ⟨x, Nat.lt_succ_self x, if_pos e, ha, e.symm, fun r hr hal hk2 => ?_⟩
    have : r = x := by
      rcases Nat.lt_or_ge r x with c | c
      · exact absurd (hk2.trans e) (hno r c hal)
      · omega
    (try dsimp only)
    rw [if_pos (by rw [this])]
  · rcases h k hk with ⟨a, b⟩ | ⟨q, a, b, c, d, f⟩
    · refine Or.inl ⟨by (try dsimp only); rw [if_neg e]; exact a, fun r hr hal => ?_⟩
      rcases Nat.lt_or_ge r x with c | c
      · exact b r c hal
      · have : r = x := by omega
        rw [this]
        exact fun z => e z.symm
    · refine Or.inr ⟨q, by omega, by (try dsimp only); rw [if_neg e]; exact b, c, d, fun r hr hal hk2 => ?_⟩
      have : r ≠ x := fun z => e (by rw [← hk2, z])
      (try dsimp only)
      rw [if_neg (by omega)]
      exact f r (by omega) hal hk2
theorem ld_old {W : gW} {K : Nat → Nat} {B x i : Nat} {q3 q1 : Nat → Int32} (h : ldI W K B x i q3 q1) (hm : ¬ q3 (K x) = -1) (hB : K x < B) : ldI W K B (x + 1) i q3 (fun j => if j = 1024 * i + x then q3 (K x) else q1 j) := fun k hk => by
  by_cases e : k = K x
  · rcases h k hk with ⟨a, _⟩ | ⟨q, a, b, c, d, f⟩
    · rw [e] at a
      exact absurd a hm
    · refine Or.inr ⟨q, by omega, b, c, d, fun r hr hal hk2 => ?_⟩
      (try dsimp only)
      by_cases c2 : r = x
      · rw [if_pos (by rw [c2]), ← e]
        exact b
      · rw [if_neg (by omega)]
        exact f r (by omega) hal hk2
  · rcases h k hk with ⟨a, b⟩ | ⟨q, a, b, c, d, f⟩
    · refine Or.inl ⟨a, fun r hr hal => ?_⟩
      rcases Nat.lt_or_ge r x with c | c
      · exact b r c hal
      · have : r = x := by omega
        rw [this]
        exact fun z => e z.symm
    · refine Or.inr ⟨q, by omega, b, c, d, fun r hr hal hk2 => ?_⟩
      have : r ≠ x := fun z => e (by rw [← hk2, z])
      (try dsimp only)
      rw [if_neg (by omega)]
      exact f r (by omega) hal hk2
theorem ld_at {W : gW} {K : Nat → Nat} {B x i : Nat} {q3 q1 : Nat → Int32} (h : ldI W K B x i q3 q1) {k : Nat} (hk : k < B) (hm : ¬ q3 k = -1) : ∃ q, q < x ∧ q3 k = nI q := by
  rcases h k hk with ⟨a, _⟩ | ⟨q, a, b, _⟩
  · exact absurd a hm
  · exact ⟨q, a, b⟩
theorem ld_fin {W : gW} (hW : wOK W) {K : Nat → Nat} {B i : Nat} {q3 q1 : Nat → Int32} (h : ldI W K B W.N i q3 q1) (hB : ∀ r, W.al r = true → K r < B) : (∀ r, W.al r = true → ∃ q, q < W.N ∧ q1 (1024 * i + r) = nI q) ∧ ∀ r r2, W.al r = true → W.al r2 = true → (q1 (1024 * i + r) = q1 (1024 * i + r2) ↔ K r = K r2) := by
  have hN := hW.2.1
  have key : ∀ r, W.al r = true → ∃ q, q < W.N ∧ K q = K r ∧ ∀ r2, W.al r2 = true → K r2 = K r → q1 (1024 * i + r2) = nI q := fun r hr => by
    rcases h (K r) (hB r hr) with ⟨_, b⟩ | ⟨q, a, b, c, d, f⟩
    · exact absurd rfl (b r (hW.2.2.2.2.2.2.1 r hr) hr)
    · exact ⟨q, a, d, fun r2 h2 e => f r2 (hW.2.2.2.2.2.2.1 r2 h2) h2 e⟩
  refine ⟨fun r hr => ?_, fun r r2 hr hr2 => ⟨fun e => ?_, fun e => ?_⟩⟩
  · obtain ⟨q, a, b, c⟩ := key r hr
    exact ⟨q, a, c r hr rfl⟩
  · obtain ⟨q, a, b, c⟩ := key r hr
    obtain ⟨q2, a2, b2, c2⟩ := key r2 hr2
    rw [c r hr rfl, c2 r2 hr2 rfl, nI_e (by omega) (by omega)] at e
    rw [← b, ← b2, e]
  · obtain ⟨q, a, b, c⟩ := key r hr
    rw [c r hr rfl, c r2 hr2 e.symm]
def gpI (W : gW) (n i : Nat) (q1 : Nat → Int32) : Prop := (∀ r, W.al r = true → ∃ q, q < W.N ∧ q1 (1024 * i + r) = nI q) ∧ ∀ r r2, W.al r = true → W.al r2 = true → (q1 (1024 * i + r) = q1 (1024 * i + r2) ↔ W.vw r i = W.vw r2 i ∧ tl W n r r2 = true)
theorem gpI_z {W : gW} (hW : wOK W) {i : Nat} {q3 q1 : Nat → Int32} (h : ldI W (fun r => W.vw r i) W.N W.N i q3 q1) : gpI W 0 i q1 := by
  obtain ⟨a, b⟩ := ld_fin hW h (fun r hr => hW.2.2.2.2.2.1 r i (hW.2.2.2.2.2.2.1 r hr))
  refine ⟨a, fun r r2 hr hr2 => (b r r2 hr hr2).trans ⟨fun z => ⟨z, hr2⟩, fun z => z.1⟩⟩
def gN (q1 : Nat → Int32) (i r : Nat) : Nat := (q1 (1024 * i + r)).toInt.toNat
theorem gN_e {W : gW} (hW : wOK W) {n i : Nat} {q1 : Nat → Int32} (h : gpI W n i q1) {r : Nat} (hr : W.al r = true) : q1 (1024 * i + r) = nI (gN q1 i r) ∧ gN q1 i r < W.N := by
  have hN := hW.2.1
  obtain ⟨q, a, b⟩ := h.1 r hr
  have e : gN q1 i r = q := by
    unfold gN
    rw [b, nI_toInt (by omega)]
    exact Int.toNat_natCast q
  rw [e]
  exact ⟨b, a⟩
theorem gpI_s {W : gW} (hW : wOK W) {n i : Nat} {q0 q3 q1 : Nat → Int32} (h0 : gpI W n i q0) (h : ldI W (fun r => 32 * gN q0 i r + kH W n r) (32 * W.N) W.N i q3 q1) : gpI W (n + 1) i q1 := by
  have hN := hW.2.1
  have hk : ∀ r, kH W n r < 32 := fun r => kb_lt hW _ r
  obtain ⟨a, b⟩ := ld_fin hW h (fun r hr => by
    have := (gN_e hW h0 hr).2
    have := hk r
    (try dsimp only)
    omega)
  refine ⟨a, fun r r2 hr hr2 => (b r r2 hr hr2).trans ?_⟩
  obtain ⟨e1, e2⟩ := gN_e hW h0 hr
  obtain ⟨e3, e4⟩ := gN_e hW h0 hr2
  have h1 := hk r
  have h2 := hk r2
  have hh := h0.2 r r2 hr hr2
  rw [e1, e3, nI_e (by omega) (by omega)] at hh
  (try dsimp only)
  rw [tl_s2 hW hr]
  constructor
  · intro z
    have z1 : gN q0 i r = gN q0 i r2 := by omega
    have z2 : kH W n r = kH W n r2 := by omega
    exact ⟨(hh.mp z1).1, (hh.mp z1).2, z2.symm⟩
  · rintro ⟨z1, z2, z3⟩
    have := hh.mpr ⟨z1, z2⟩
    omega
