/-! ANEW: groups of rows as lists of lists -/
def gI (W : gW) (n : Nat) (gs : List (List Nat)) : Prop := (∀ r, r ∈ gs.flatten ↔ r ∈ rl W.N W.al) ∧ gs.flatten.length = (rl W.N W.al).length ∧ ∀ l ∈ gs, l ≠ [] ∧ ∀ r ∈ l, ∀ x, x ∈ l ↔ x ∈ rl W.N (tl W n r)
theorem gI_0 {W : gW} (h : rl W.N W.al ≠ []) : gI W 0 [rl W.N W.al] := by
  have e : ([rl W.N W.al] : List (List Nat)).flatten = rl W.N W.al := by simp
  refine ⟨fun r => by rw [e], by rw [e], fun l hl => ?_⟩
  rw [List.mem_singleton] at hl
  subst hl
  exact ⟨h, fun r _ x => Iff.rfl⟩
theorem gI_kb {W : gW} {n : Nat} {gs : List (List Nat)} (h : gI W n gs) {l : List Nat} (hl : l ∈ gs) {r : Nat} (hr : r ∈ l) (x : Nat) : kb W l x = kb W (rl W.N (tl W n r)) x := kb_set (fun y => (h.2.2 l hl).2 r hr y) x
theorem gI_kH {W : gW} {n : Nat} {gs : List (List Nat)} (h : gI W n gs) {l : List Nat} (hl : l ∈ gs) {r : Nat} (hr : r ∈ l) : kb W l r = kH W n r := gI_kb h hl hr r
theorem gI_lt {W : gW} {n : Nat} {gs : List (List Nat)} (h : gI W n gs) {l : List Nat} (hl : l ∈ gs) {r : Nat} (hr : r ∈ l) : r ∈ rl W.N W.al := (h.1 r).mp (List.mem_flatten.mpr ⟨l, hl, hr⟩)
theorem splt_fl (W : gW) : ∀ gs : List (List Nat), (splt W gs).flatten.length = gs.flatten.length
  | [] => rfl
  | l :: gs => by
    unfold splt
    rw [List.flatMap_cons, List.flatten_append, List.length_append, pcs_ful, List.flatten_cons, List.length_append]
    have := splt_fl W gs
    unfold splt at this
    rw [this]
theorem gI_s {W : gW} (hW : wOK W) {n : Nat} {gs : List (List Nat)} (h : gI W n gs) : gI W (n + 1) (splt W gs) := by
  refine ⟨fun r => ?_, by rw [splt_fl]; exact h.2.1, fun p hp => ?_⟩
  · rw [← h.1 r, List.mem_flatten, List.mem_flatten]
    constructor
    · rintro ⟨p, hp, hr⟩
      obtain ⟨l, hl, hpl⟩ := List.mem_flatMap.mp hp
      obtain ⟨v, _, e, _⟩ := pcs_mem.mp hpl
      rw [e] at hr
      exact ⟨l, hl, (List.mem_filter.mp hr).1⟩
    · rintro ⟨l, hl, hr⟩
      have hm : r ∈ l.filter (fun x => decide (kb W l x = kb W l r)) := List.mem_filter.mpr ⟨hr, decide_eq_true rfl⟩
      exact ⟨_, List.mem_flatMap.mpr ⟨l, hl, pcs_mem.mpr ⟨kb W l r, kb_ltg l r, rfl, fun z => by rw [z] at hm; cases hm⟩⟩, hm⟩
  · obtain ⟨l, hl, hpl⟩ := List.mem_flatMap.mp hp
    obtain ⟨v, _, e, ne⟩ := pcs_mem.mp hpl
    refine ⟨ne, fun r hr x => ?_⟩
    rw [e, List.mem_filter, decide_eq_true_iff] at hr
    have ha := (rl_mem.mp (gI_lt h hl hr.1)).2
    rw [e, List.mem_filter, decide_eq_true_iff, (h.2.2 l hl).2 r hr.1 x, rl_mem, rl_mem, tl_s hW, Bool.and_eq_true, decide_eq_true_iff, gI_kb h hl hr.1 x, ← hr.2, gI_kH h hl hr.1]
    exact ⟨fun ⟨⟨a, b⟩, c⟩ => ⟨a, c, b⟩, fun ⟨a, c, b⟩ => ⟨⟨a, b⟩, c⟩⟩
theorem fm_one {f : List Nat → List (List Nat)} : ∀ {gs : List (List Nat)}, (∀ l ∈ gs, f l ≠ []) → gs.length ≤ (gs.flatMap f).length ∧ ((gs.flatMap f).length ≤ gs.length → ∀ l ∈ gs, (f l).length ≤ 1)
  | [], _ => ⟨Nat.le_refl _, fun _ l h => (by cases h)⟩
  | l :: gs, h => by
    obtain ⟨a, b⟩ := fm_one (gs := gs) (fun x hx => h x (List.mem_cons_of_mem _ hx))
    have hl := List.length_pos_iff.mpr (h l List.mem_cons_self)
    rw [List.flatMap_cons, List.length_append, List.length_cons]
    refine ⟨by omega, fun q x hx => ?_⟩
    rcases List.mem_cons.mp hx with e | hx
    · rw [e]; omega
    · exact b (by omega) x hx
theorem pcs_ne {W : gW} {l : List Nat} (h : l ≠ []) : pcs W l (2 ^ W.g) ≠ [] := fun z => by
  have := pcs_ful (W := W) (l := l)
  rw [z] at this
  exact h (List.length_eq_zero_iff.mp this.symm)
theorem splt_ge {W : gW} {n : Nat} {gs : List (List Nat)} (h : gI W n gs) : gs.length ≤ (splt W gs).length := (fm_one (fun l hl => pcs_ne (h.2.2 l hl).1)).1
theorem splt_fix {W : gW} (hW : wOK W) {n : Nat} {gs : List (List Nat)} (h : gI W n gs) (hl : (splt W gs).length ≤ gs.length) : ∀ r, W.al r = true → tl W (n + 1) r = tl W n r := by
  intro r ha
  have h1 := (fm_one (f := fun l => pcs W l (2 ^ W.g)) (fun l hl => pcs_ne (h.2.2 l hl).1)).2 hl
  obtain ⟨l, hm, hr⟩ := List.mem_flatten.mp ((h.1 r).mpr (al_rl hW ha))
  have h2 := h1 l hm
  funext x
  rw [tl_s hW]
  cases q : tl W n r x with
  | false => rw [Bool.and_false]
  | true =>
    rw [Bool.and_true]
    have hx : x ∈ l := ((h.2.2 l hm).2 r hr x).mpr (rl_mem.mpr ⟨hW.2.2.2.2.2.2.1 x (tl_al hW n q), q⟩)
    have m1 : r ∈ l.filter (fun y => decide (kb W l y = kb W l r)) := List.mem_filter.mpr ⟨hr, decide_eq_true rfl⟩
    have m2 : x ∈ l.filter (fun y => decide (kb W l y = kb W l x)) := List.mem_filter.mpr ⟨hx, decide_eq_true rfl⟩
    have p1 : l.filter (fun y => decide (kb W l y = kb W l r)) ∈ pcs W l (2 ^ W.g) := pcs_mem.mpr ⟨_, kb_ltg l r, rfl, fun z => by rw [z] at m1; cases m1⟩
    have p2 : l.filter (fun y => decide (kb W l y = kb W l x)) ∈ pcs W l (2 ^ W.g) := pcs_mem.mpr ⟨_, kb_ltg l x, rfl, fun z => by rw [z] at m2; cases m2⟩
    have e : l.filter (fun y => decide (kb W l y = kb W l r)) = l.filter (fun y => decide (kb W l y = kb W l x)) := by
      match hp : pcs W l (2 ^ W.g) with
      | [] => rw [hp] at p1; cases p1
      | [a] =>
        rw [hp, List.mem_singleton] at p1 p2
        rw [p1, p2]
      | a :: b :: c =>
        rw [hp] at h2
        exact absurd h2 (by simp)
    rw [← e] at m2
    have := of_decide_eq_true (List.mem_filter.mp m2).2
    rw [gI_kb h hm hr x, gI_kH h hm hr] at this
    exact decide_eq_true this
theorem tl_stay {W : gW} {n : Nat} (h : ∀ r, W.al r = true → tl W (n + 1) r = tl W n r) : ∀ k r, W.al r = true → tl W (n + k) r = tl W n r
  | 0, _, _ => rfl
  | k + 1, r, ha => by
    have e := tl_stay h k r ha
    have : tl W (n + (k + 1)) r = nxt W r (tl W (n + k) r) := rfl
    rw [this, e]
    exact h r ha
theorem kH_stay {W : gW} {n : Nat} (h : ∀ r, W.al r = true → tl W (n + 1) r = tl W n r) (k r : Nat) (ha : W.al r = true) : kH W (n + k) r = kH W n r := by
  unfold kH
  rw [tl_stay h k r ha]
/-- the first round at whose beginning guest i knows, r being worn; 99: none below n -/
def fkR (W : gW) (r i : Nat) : Nat → Nat
  | 0 => 99
  | n + 1 => if (kH W n r).testBit i = true then min (fkR W r i n) n else fkR W r i n
theorem fkR_le (W : gW) (r i : Nat) : ∀ n, fkR W r i n ≤ 99
  | 0 => Nat.le_refl _
  | n + 1 => by
    unfold fkR
    have := fkR_le W r i n
    split
    · omega
    · exact this
theorem fkR_stay {W : gW} {n : Nat} (h : ∀ r, W.al r = true → tl W (n + 1) r = tl W n r) (r i : Nat) (ha : W.al r = true) : ∀ k, fkR W r i (n + 1 + k) = fkR W r i (n + 1)
  | 0 => rfl
  | k + 1 => by
    have e := fkR_stay h r i ha k
    show (if (kH W (n + 1 + k) r).testBit i = true then min (fkR W r i (n + 1 + k)) (n + 1 + k) else fkR W r i (n + 1 + k)) = _
    rw [show n + 1 + k = n + (k + 1) from by omega, kH_stay h (k + 1) r ha, show n + (k + 1) = n + 1 + k from by omega, e]
    split
    · rename_i q
      have : fkR W r i (n + 1) ≤ n := by
        unfold fkR
        rw [if_pos q]
        omega
      omega
    · rfl
/-- the first known round against the rounds -/
theorem fkR_iff {W : gW} (hW : wOK W) {r i : Nat} (ha : W.al r = true) (hi : i < W.g) : ∀ {n m : Nat}, m < n → m < 99 → (fkR W r i n ≤ m ↔ (kH W m r).testBit i = true) := by
  intro n
  induction n with
  | zero => exact fun h _ => absurd h (Nat.not_lt_zero _)
  | succ n ih =>
    intro m hm h9
    have mono : ∀ {a b : Nat}, a ≤ b → (kH W a r).testBit i = true → (kH W b r).testBit i = true := by
      intro a b hab hk
      rw [kH_bit hi] at hk ⊢
      have := rdK_m hW (al_rl hW ha) hk (b - a)
      rw [show a + (b - a) = b from by omega] at this
      exact this
    unfold fkR
    rcases Nat.lt_or_ge m n with q | q
    · rw [← ih q h9]
      split
      · rename_i hk
        constructor
        · intro z
          rw [Nat.min_def] at z
          split at z
          · exact z
          · omega
        · intro z
          exact Nat.le_trans (Nat.min_le_left _ _) z
      · exact Iff.rfl
    · have e : m = n := by omega
      subst e
      split
      · rename_i hk
        exact ⟨fun _ => hk, fun _ => Nat.min_le_right _ _⟩
      · rename_i hk
        refine ⟨fun z => ?_, fun z => absurd z hk⟩
        cases m with
        | zero => exact absurd z (by show ¬ 99 ≤ 0; decide)
        | succ p =>
          -- fkR (p+1) <= p+1 and p < p+1: some earlier round
          exfalso
          have key : ∀ q, fkR W r i q ≤ 98 → ∃ j, j < q ∧ (kH W j r).testBit i = true := by
            intro q
            induction q with
            | zero => exact fun z => absurd z (by show ¬ 99 ≤ 98; decide)
            | succ q ihq =>
              intro z
              unfold fkR at z
              split at z
              · rename_i hk2
                exact ⟨q, Nat.lt_succ_self q, hk2⟩
              · obtain ⟨j, a, b⟩ := ihq z
                exact ⟨j, by omega, b⟩
          obtain ⟨j, a, b⟩ := key (p + 1) (by omega)
          exact hk (mono (by omega) b)
def fk (W : gW) (r i : Nat) : Nat := fkR W r i 21
theorem fk_iff {W : gW} (hW : wOK W) {r i m : Nat} (ha : W.al r = true) (hi : i < W.g) (hm : m ≤ 20) : fk W r i ≤ m ↔ (kH W m r).testBit i = true := fkR_iff hW ha hi (by omega) (by omega)
theorem fk_le (W : gW) (r i : Nat) : fk W r i ≤ 99 := fkR_le W r i 21
