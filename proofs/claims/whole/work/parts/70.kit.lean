/-! PURE MATHEMATICS: the kit. wq: what an Option-valued function does; loops by invariants; numbers; cells -/
def wq {α : Type} (o : Option α) (P : α → Prop) : Prop := ∃ x, o = some x ∧ P x
theorem wq_some {α : Type} {x : α} {P : α → Prop} : wq (some x) P ↔ P x := ⟨fun ⟨_, e, h⟩ => by cases e; exact h, fun h => ⟨x, rfl, h⟩⟩
theorem wq_bind {α β : Type} {a : Option α} {f : α → Option β} {P : β → Prop} : wq (Option.bind a f) P ↔ wq a (fun x => wq (f x) P) := by
  constructor
  · rintro ⟨x, e, h⟩
    obtain ⟨y, e1, e2⟩ := Option.bind_eq_some_iff.mp e
    exact ⟨y, e1, x, e2, h⟩
  · rintro ⟨y, e1, x, e2, h⟩
    exact ⟨x, Option.bind_eq_some_iff.mpr ⟨y, e1, e2⟩, h⟩
theorem wq_map {α β : Type} {a : Option α} {P : β ⊕ α → Prop} : wq (Option.map (Sum.inr : α → β ⊕ α) a) P ↔ wq a (fun x => P (Sum.inr x)) := by
  constructor
  · rintro ⟨x, e, h⟩
    obtain ⟨y, e1, e2⟩ := Option.map_eq_some_iff.mp e
    subst e2
    exact ⟨y, e1, h⟩
  · rintro ⟨y, e1, h⟩
    exact ⟨_, Option.map_eq_some_iff.mpr ⟨y, e1, rfl⟩, h⟩
theorem wq_ite {α : Type} {c : Prop} [Decidable c] {a b : Option α} {P : α → Prop} : wq (if c then a else b) P ↔ (c → wq a P) ∧ (¬ c → wq b P) := by
  by_cases h : c
  · rw [if_pos h]; exact ⟨fun q => ⟨fun _ => q, fun n => absurd h n⟩, fun q => q.1 h⟩
  · rw [if_neg h]; exact ⟨fun q => ⟨fun n => absurd n h, fun _ => q⟩, fun q => q.2 h⟩
theorem wq_let {α β : Type} {a : α} {f : α → Option β} {P : β → Prop} : wq (fhlet a f) P ↔ wq (f a) P := Iff.rfl
theorem wq_mono {α : Type} {a : Option α} {P Q : α → Prop} (h : wq a P) (hi : ∀ x, P x → Q x) : wq a Q := by
  obtain ⟨x, e, p⟩ := h
  exact ⟨x, e, hi x p⟩
theorem wq_of {α : Type} {a : Option α} {x : α} {P : α → Prop} (h : a = some x) (p : P x) : wq a P := ⟨x, h, p⟩
theorem wq_get {α : Type} {a : Option α} {x : α} {P : α → Prop} (h : a = some x) (q : wq a P) : P x := by
  obtain ⟨y, e, p⟩ := q
  rw [h] at e
  cases e
  exact p
theorem wq_and {α : Type} {a : Option α} {P Q : α → Prop} (h : wq a P) (h2 : wq a Q) : wq a (fun x => P x ∧ Q x) := by
  obtain ⟨x, e, p⟩ := h
  exact ⟨x, e, p, wq_get e h2⟩
theorem fhK_l {α β : Type} {W : α → Prop} {B : β → Prop} {y : α} : fhK W B (.inl y) ↔ W y := Iff.rfl
theorem fhK_r {α β : Type} {W : α → Prop} {B : β → Prop} {y : β} : fhK W B (.inr y) ↔ B y := Iff.rfl
theorem fhlp_s {α β : Type} {f : α → Option (α ⊕ β)} {x y : α} (h : f x = some (.inl y)) : fhlp f x = fhlp f y := by
  have up : ∀ z, fhlp f y = some z → fhlp f x = some z := by
    intro z hz
    obtain ⟨n, hn⟩ := fhlp_ex hz
    refine fhlp_of (n := n + 1) ?_
    unfold fhit
    rw [h]
    exact hn
  cases e : fhlp f y with
  | some z => exact up z e
  | none =>
    cases e2 : fhlp f x with
    | none => rfl
    | some z =>
      obtain ⟨n, hn⟩ := fhlp_ex e2
      cases n with
      | zero => cases hn
      | succ n =>
        unfold fhit at hn
        rw [h] at hn
        rw [fhlp_of hn] at e
        cases e
theorem fhlp_e {α β : Type} {f : α → Option (α ⊕ β)} {x : α} {z : β} (h : f x = some (.inr z)) : fhlp f x = some z := by
  refine fhlp_of (n := 1) ?_
  unfold fhit
  rw [h]
theorem wq_step {α β : Type} {f : α → Option (α ⊕ β)} {x : α} {P : β → Prop} (h : wq (f x) (fhK (fun y => wq (fhlp f y) P) P)) : wq (fhlp f x) P := by
  obtain ⟨o, e, p⟩ := h
  cases o with
  | inl y =>
    rw [fhlp_s e]
    exact p
  | inr z => exact ⟨z, fhlp_e e, p⟩
theorem wq_loop {α β : Type} {f : α → Option (α ⊕ β)} {P : β → Prop} (Inv : α → Prop) (μ : α → Nat) (step : ∀ y, Inv y → wq (f y) (fhK (fun y' => Inv y' ∧ μ y' < μ y) P)) {x : α} (h0 : Inv x) : wq (fhlp f x) P := by
  have key : ∀ (n : Nat) (x : α), μ x < n → Inv x → wq (fhlp f x) P := by
    intro n
    induction n with
    | zero => intro x h; omega
    | succ n ih =>
      intro x h hx
      refine wq_step (wq_mono (step x hx) ?_)
      rintro (y | z) p
      · exact ih y (by have := p.2; omega) p.1
      · exact p
  exact key (μ x + 1) x (Nat.lt_succ_self _) h0
/-- for k from a to n -/
theorem wq_for {α β : Type} {f : α → Option (α ⊕ β)} {P : β → Prop} (R : Nat → α → Prop) (a n : Nat) (ha : a ≤ n) (step : ∀ k y, a ≤ k → k < n → R k y → wq (f y) (fhK (R (k + 1)) P)) (last : ∀ y, R n y → wq (f y) (fhK (fun _ => False) P)) {x : α} (h0 : R a x) : wq (fhlp f x) P := by
  have key : ∀ (m k : Nat) (x : α), k + m = n → a ≤ k → R k x → wq (fhlp f x) P := by
    intro m
    induction m with
    | zero =>
      intro k x hk hak hx
      have e : k = n := hk
      subst e
      refine wq_step (wq_mono (last x hx) ?_)
      rintro (y | z) p
      · exact p.elim
      · exact p
    | succ m ih =>
      intro k x hk hak hx
      refine wq_step (wq_mono (step k x hak (by omega) hx) ?_)
      rintro (y | z) p
      · exact ih (k + 1) y (by omega) (by omega) p
      · exact p
  exact key (n - a) a x (by omega) (Nat.le_refl _) h0
/-! numbers -/
theorem ph_0 : (0 : Int32) = nI 0 := rfl
theorem ph_nm1 : (-1 : Int32) = Int32.ofInt (-1) := rfl
theorem ph_in {k n : Nat} (hk : k < 2 ^ 31) : fhin (nI k) n = decide (k < n) := by
  unfold fhin
  rw [decide_eq_false (nI_pos hk), nI_clamp hk]
  rfl
theorem ph_in1 {k n : Nat} (hk : k < 2 ^ 31) (h : k < n) : (fhin (nI k) n && true) = true := by
  rw [ph_in hk, decide_eq_true h]
  rfl
theorem ph_ix {k : Nat} (hk : k < 2 ^ 31) : fhix (nI k) = k := nI_clamp hk
theorem ph_or (a b : Nat) : nI a ||| nI b = nI (a ||| b) := by
  apply Int32.toBitVec_inj.1
  show BitVec.ofNat 32 a ||| BitVec.ofNat 32 b = BitVec.ofNat 32 (a ||| b)
  apply BitVec.eq_of_getLsbD_eq
  intro i hi
  simp [BitVec.getLsbD_or, BitVec.getLsbD_ofNat, hi, Nat.testBit_or]
theorem ph_and (a b : Nat) : nI a &&& nI b = nI (a &&& b) := by
  apply Int32.toBitVec_inj.1
  show BitVec.ofNat 32 a &&& BitVec.ofNat 32 b = BitVec.ofNat 32 (a &&& b)
  apply BitVec.eq_of_getLsbD_eq
  intro i hi
  simp [BitVec.getLsbD_and, BitVec.getLsbD_ofNat, hi, Nat.testBit_and]
theorem ph_xor (a b : Nat) : nI a ^^^ nI b = nI (a ^^^ b) := by
  apply Int32.toBitVec_inj.1
  show BitVec.ofNat 32 a ^^^ BitVec.ofNat 32 b = BitVec.ofNat 32 (a ^^^ b)
  apply BitVec.eq_of_getLsbD_eq
  intro i hi
  simp [BitVec.getLsbD_xor, BitVec.getLsbD_ofNat, hi, Nat.testBit_xor]
theorem ph_shk : ∀ l, l < 32 → ((nI l &&& 31).toBitVec.smod 32).toNat = l := by decide +kernel
theorem ph_shl {a l : Nat} (hl : l < 32) (h : a * 2 ^ l < 2 ^ 32) : nI a <<< (nI l &&& 31) = nI (a * 2 ^ l) := pk_shlN _ l (ph_shk l hl) h
theorem ph_shl1 {l : Nat} (hl : l < 31) : (1 : Int32) <<< (nI l &&& 31) = nI (2 ^ l) := by
  have h : 1 * 2 ^ l < 2 ^ 32 := by
    have := Nat.pow_lt_pow_right (a := 2) (by decide) (show l < 32 by omega)
    omega
  have e := ph_shl (a := 1) (l := l) (by omega) h
  rw [Nat.one_mul] at e
  exact e
theorem ph_shr {a l : Nat} (ha : a < 2 ^ 31) (hl : l < 32) : nI a >>> (nI l &&& 31) = nI (a / 2 ^ l) := pk_shrN ha _ l (ph_shk l hl)
theorem ph_rem {a d : Nat} (ha : a < 2 ^ 31) (h0 : 0 < d) (hd : d < 2 ^ 31) : fhrem (nI a) (nI d) = nI (a % d) := pk_rem ha h0 hd
theorem ph_nz {a : Nat} (ha : a < 2 ^ 31) (h0 : 0 < a) : fhnz (nI a) = true := by
  unfold fhnz
  rw [decide_eq_false (nI_ne0 h0 ha)]
  rfl
theorem ph_m1n {a : Nat} (ha : a < 2 ^ 31) : ¬ nI a = (-1 : Int32) := by
  intro h
  have e := nI_toInt ha
  rw [h] at e
  have e2 : (-1 : Int32).toInt = -1 := rfl
  omega
theorem ph_m1l : ((-1 : Int32) < 0) := by decide
theorem ph_bit {a l : Nat} (ha : a < 2 ^ 31) (hl : l < 32) : ((nI a >>> (nI l &&& 31)) &&& (1 : Int32)) = nI (a / 2 ^ l % 2) := by
  rw [ph_shr ha hl]
  show nI _ &&& nI 1 = _
  rw [ph_and, Nat.and_one_is_mod]
theorem ph_bit0 {a l : Nat} (ha : a < 2 ^ 31) (hl : l < 32) : (((nI a >>> (nI l &&& 31)) &&& (1 : Int32)) = 0) ↔ a.testBit l = false := by
  rw [ph_bit ha hl, ph_0, nI_eq (by have := Nat.mod_lt (a / 2 ^ l) (show 0 < 2 by decide); omega) (by decide), Nat.testBit_eq_decide_div_mod_eq, decide_eq_false_iff_not]
  have := Nat.mod_lt (a / 2 ^ l) (show 0 < 2 by decide)
  omega
/-! cells -/
theorem fhI_r (σ : fhM) (t k : Nat) (x : Int32) (a j : Nat) : (fhI σ t k x).1 a j = if a = t ∧ j = k then x else σ.1 a j := fhup_if σ.1 t k x a j
theorem fhI_e {σ : fhM} {t k : Nat} {x : Int32} : (fhI σ t k x).1 t k = x := by rw [fhI_r, if_pos ⟨rfl, rfl⟩]
theorem fhI_o {σ : fhM} {t k : Nat} {x : Int32} {a j : Nat} (h : a ≠ t) : (fhI σ t k x).1 a j = σ.1 a j := by rw [fhI_r, if_neg (fun q => h q.1)]
theorem fhI_s {σ : fhM} {t k : Nat} {x : Int32} {j : Nat} (h : j ≠ k) : (fhI σ t k x).1 t j = σ.1 t j := by rw [fhI_r, if_neg (fun q => h q.2)]
theorem fhI_2 (σ : fhM) (t k : Nat) (x : Int32) : (fhI σ t k x).2 = σ.2 := rfl
theorem fhJ_1 (σ : fhM) (t k : Nat) (x : Int64) : (fhJ σ t k x).1 = σ.1 := rfl
theorem fhJ_r (σ : fhM) (t k : Nat) (x : Int64) (a j : Nat) : (fhJ σ t k x).2.1 a j = if a = t ∧ j = k then x else σ.2.1 a j := fhup_if σ.2.1 t k x a j
theorem fhJ_22 (σ : fhM) (t k : Nat) (x : Int64) : (fhJ σ t k x).2.2 = σ.2.2 := rfl
theorem fhR_1 (σ : fhM) (t k x : Nat) : (fhR σ t k x).1 = σ.1 := rfl
theorem fhR_21 (σ : fhM) (t k x : Nat) : (fhR σ t k x).2.1 = σ.2.1 := rfl
theorem fhR_r (σ : fhM) (t k x : Nat) (a j : Nat) : (fhR σ t k x).2.2 a j = if a = t ∧ j = k then x else σ.2.2 a j := fhup_if σ.2.2 t k x a j
theorem fcG_at {σ : fhM} {t k N : Nat} (hN : fcL t = N) (h : k < N) (hk : k < 2 ^ 31) : fcG σ t (nI k) = σ.1 (t + 1) k := by
  unfold fcG
  rw [hN, ph_in hk, ph_ix hk, decide_eq_true h]
  rfl
theorem fcG_out {σ : fhM} {t k N : Nat} (hN : fcL t = N) (h : N ≤ k) (hk : k < 2 ^ 31) : fcG σ t (nI k) = 0 := by
  unfold fcG
  rw [hN, ph_in hk, ph_ix hk, decide_eq_false (by omega)]
  rfl
theorem fcP_at {σ : fhM} {t k N : Nat} {v : Int32} (hN : fcL t = N) (h : k < N) (hk : k < 2 ^ 31) : fcP σ t (nI k) v = fhI σ (t + 1) k v := by
  unfold fcP fhI fhup
  rw [hN, ph_in hk, ph_ix hk, decide_eq_true h]
  simp only [Bool.and_true]
theorem fcP_out {σ : fhM} {t k N : Nat} {v : Int32} (hN : fcL t = N) (h : N ≤ k) (hk : k < 2 ^ 31) : fcP σ t (nI k) v = σ := by
  unfold fcP
  rw [hN, ph_in hk, ph_ix hk, decide_eq_false (by omega)]
  simp only [Bool.and_false]
  rfl
theorem fcW_r {σ : fhM} {t N : Nat} (hN : fcL t = N) (a j : Nat) : (fcW σ t).1 a j = if a = t + 1 ∧ j < N then 0 else σ.1 a j := by
  unfold fcW
  rw [hN]
  dsimp only
  by_cases h1 : a = t + 1
  · by_cases h2 : j < N
    · rw [if_pos ⟨h1, h2⟩]
      have : Nat.blt j N = true := Nat.ble_eq_true_of_le h2
      rw [this, h1, Nat.beq_refl]
      rfl
    · rw [if_neg (fun q => h2 q.2)]
      have : Nat.blt j N = false := by
        cases e : Nat.blt j N with
        | false => rfl
        | true => exact absurd (fhblt e) h2
      rw [this, Bool.and_false]
      rfl
  · rw [if_neg (fun q => h1 q.1)]
    have : Nat.beq a (t + 1) = false := by
      cases e : Nat.beq a (t + 1) with
      | false => rfl
      | true => exact absurd (Nat.eq_of_beq_eq_true e) h1
    rw [this]
    rfl
theorem fcW_2 (σ : fhM) (t : Nat) : (fcW σ t).2 = σ.2 := rfl
/-- all but D is as it was -/
def fr (D : Nat → Nat → Prop) (σ σ' : fhM) : Prop := σ'.2 = σ.2 ∧ ∀ t j, ¬ D t j → σ'.1 t j = σ.1 t j
theorem fr_rf {D : Nat → Nat → Prop} {σ : fhM} : fr D σ σ := ⟨rfl, fun _ _ _ => rfl⟩
theorem fr_tr {D : Nat → Nat → Prop} {σ σ' σ'' : fhM} (h : fr D σ σ') (h2 : fr D σ' σ'') : fr D σ σ'' := ⟨h2.1.trans h.1, fun t j n => (h2.2 t j n).trans (h.2 t j n)⟩
theorem fr_mo {D D' : Nat → Nat → Prop} {σ σ' : fhM} (h : fr D σ σ') (hi : ∀ t j, D t j → D' t j) : fr D' σ σ' := ⟨h.1, fun t j n => h.2 t j (fun q => n (hi t j q))⟩
theorem fr_I {D : Nat → Nat → Prop} {σ σ' : fhM} {t k : Nat} {x : Int32} (h : fr D σ σ') (hd : D t k) : fr D σ (fhI σ' t k x) := by
  refine ⟨h.1, fun a j n => ?_⟩
  rw [fhI_r, if_neg (fun q => by rw [q.1, q.2] at n; exact n hd)]
  exact h.2 a j n
theorem cg1 {σ : fhM} {k : Nat} (h : k < 1600) : fcG σ 1 (nI k) = σ.1 2 k := fcG_at rfl h (by omega)
theorem cp1 {σ : fhM} {k : Nat} {v : Int32} (h : k < 1600) : fcP σ 1 (nI k) v = fhI σ 2 k v := fcP_at rfl h (by omega)
theorem cg4 {σ : fhM} {k : Nat} (h : k < 8000) : fcG σ 4 (nI k) = σ.1 5 k := fcG_at rfl h (by omega)
theorem cp4 {σ : fhM} {k : Nat} {v : Int32} (h : k < 8000) : fcP σ 4 (nI k) v = fhI σ 5 k v := fcP_at rfl h (by omega)
theorem cg7 {σ : fhM} {k : Nat} (h : k < 1600) : fcG σ 7 (nI k) = σ.1 8 k := fcG_at rfl h (by omega)
theorem cp7 {σ : fhM} {k : Nat} {v : Int32} (h : k < 1600) : fcP σ 7 (nI k) v = fhI σ 8 k v := fcP_at rfl h (by omega)
theorem cg11 {σ : fhM} {k : Nat} (h : k < 30) : fcG σ 11 (nI k) = σ.1 12 k := fcG_at rfl h (by omega)
theorem cp11 {σ : fhM} {k : Nat} {v : Int32} (h : k < 30) : fcP σ 11 (nI k) v = fhI σ 12 k v := fcP_at rfl h (by omega)
theorem cg13 {σ : fhM} {k : Nat} (h : k < 64) : fcG σ 13 (nI k) = σ.1 14 k := fcG_at rfl h (by omega)
theorem cp13 {σ : fhM} {k : Nat} {v : Int32} (h : k < 64) : fcP σ 13 (nI k) v = fhI σ 14 k v := fcP_at rfl h (by omega)
theorem cg17 {σ : fhM} {k : Nat} (h : k < 1600) : fcG σ 17 (nI k) = σ.1 18 k := fcG_at rfl h (by omega)
theorem cp17 {σ : fhM} {k : Nat} {v : Int32} (h : k < 1600) : fcP σ 17 (nI k) v = fhI σ 18 k v := fcP_at rfl h (by omega)
theorem cg19 {σ : fhM} {k : Nat} (h : k < 5) : fcG σ 19 (nI k) = σ.1 20 k := fcG_at rfl h (by omega)
theorem cp19 {σ : fhM} {k : Nat} {v : Int32} (h : k < 5) : fcP σ 19 (nI k) v = fhI σ 20 k v := fcP_at rfl h (by omega)
theorem cg21 {σ : fhM} {k : Nat} (h : k < 8) : fcG σ 21 (nI k) = σ.1 22 k := fcG_at rfl h (by omega)
theorem cp21 {σ : fhM} {k : Nat} {v : Int32} (h : k < 8) : fcP σ 21 (nI k) v = fhI σ 22 k v := fcP_at rfl h (by omega)
theorem cg23 {σ : fhM} {k : Nat} (h : k < 16) : fcG σ 23 (nI k) = σ.1 24 k := fcG_at rfl h (by omega)
theorem cp23 {σ : fhM} {k : Nat} {v : Int32} (h : k < 16) : fcP σ 23 (nI k) v = fhI σ 24 k v := fcP_at rfl h (by omega)
theorem cg25 {σ : fhM} {k : Nat} (h : k < 5) : fcG σ 25 (nI k) = σ.1 26 k := fcG_at rfl h (by omega)
theorem cp25 {σ : fhM} {k : Nat} {v : Int32} (h : k < 5) : fcP σ 25 (nI k) v = fhI σ 26 k v := fcP_at rfl h (by omega)
theorem cg29 {σ : fhM} {k : Nat} (h : k < 1600) : fcG σ 29 (nI k) = σ.1 30 k := fcG_at rfl h (by omega)
theorem cp29 {σ : fhM} {k : Nat} {v : Int32} (h : k < 1600) : fcP σ 29 (nI k) v = fhI σ 30 k v := fcP_at rfl h (by omega)
theorem cg31 {σ : fhM} {k : Nat} (h : k < 5) : fcG σ 31 (nI k) = σ.1 32 k := fcG_at rfl h (by omega)
theorem cp31 {σ : fhM} {k : Nat} {v : Int32} (h : k < 5) : fcP σ 31 (nI k) v = fhI σ 32 k v := fcP_at rfl h (by omega)
theorem cg33 {σ : fhM} {k : Nat} (h : k < 8) : fcG σ 33 (nI k) = σ.1 34 k := fcG_at rfl h (by omega)
theorem cp33 {σ : fhM} {k : Nat} {v : Int32} (h : k < 8) : fcP σ 33 (nI k) v = fhI σ 34 k v := fcP_at rfl h (by omega)
theorem cg35 {σ : fhM} {k : Nat} (h : k < 16) : fcG σ 35 (nI k) = σ.1 36 k := fcG_at rfl h (by omega)
theorem cp35 {σ : fhM} {k : Nat} {v : Int32} (h : k < 16) : fcP σ 35 (nI k) v = fhI σ 36 k v := fcP_at rfl h (by omega)
theorem cg37 {σ : fhM} {k : Nat} (h : k < 5) : fcG σ 37 (nI k) = σ.1 38 k := fcG_at rfl h (by omega)
theorem cp37 {σ : fhM} {k : Nat} {v : Int32} (h : k < 5) : fcP σ 37 (nI k) v = fhI σ 38 k v := fcP_at rfl h (by omega)
theorem cg40 {σ : fhM} {k : Nat} (h : k < 6) : fcG σ 40 (nI k) = σ.1 41 k := fcG_at rfl h (by omega)
theorem cp40 {σ : fhM} {k : Nat} {v : Int32} (h : k < 6) : fcP σ 40 (nI k) v = fhI σ 41 k v := fcP_at rfl h (by omega)
theorem cg42 {σ : fhM} {k : Nat} (h : k < 5120) : fcG σ 42 (nI k) = σ.1 43 k := fcG_at rfl h (by omega)
theorem cp42 {σ : fhM} {k : Nat} {v : Int32} (h : k < 5120) : fcP σ 42 (nI k) v = fhI σ 43 k v := fcP_at rfl h (by omega)
theorem cg44 {σ : fhM} {k : Nat} (h : k < 5120) : fcG σ 44 (nI k) = σ.1 45 k := fcG_at rfl h (by omega)
theorem cp44 {σ : fhM} {k : Nat} {v : Int32} (h : k < 5120) : fcP σ 44 (nI k) v = fhI σ 45 k v := fcP_at rfl h (by omega)
theorem cg46 {σ : fhM} {k : Nat} (h : k < 1024) : fcG σ 46 (nI k) = σ.1 47 k := fcG_at rfl h (by omega)
theorem cp46 {σ : fhM} {k : Nat} {v : Int32} (h : k < 1024) : fcP σ 46 (nI k) v = fhI σ 47 k v := fcP_at rfl h (by omega)
theorem cg48 {σ : fhM} {k : Nat} (h : k < 1024) : fcG σ 48 (nI k) = σ.1 49 k := fcG_at rfl h (by omega)
theorem cp48 {σ : fhM} {k : Nat} {v : Int32} (h : k < 1024) : fcP σ 48 (nI k) v = fhI σ 49 k v := fcP_at rfl h (by omega)
theorem cg50 {σ : fhM} {k : Nat} (h : k < 5) : fcG σ 50 (nI k) = σ.1 51 k := fcG_at rfl h (by omega)
theorem cp50 {σ : fhM} {k : Nat} {v : Int32} (h : k < 5) : fcP σ 50 (nI k) v = fhI σ 51 k v := fcP_at rfl h (by omega)
theorem cg52 {σ : fhM} {k : Nat} (h : k < 1024) : fcG σ 52 (nI k) = σ.1 53 k := fcG_at rfl h (by omega)
theorem cp52 {σ : fhM} {k : Nat} {v : Int32} (h : k < 1024) : fcP σ 52 (nI k) v = fhI σ 53 k v := fcP_at rfl h (by omega)
theorem cg54 {σ : fhM} {k : Nat} (h : k < 1024) : fcG σ 54 (nI k) = σ.1 55 k := fcG_at rfl h (by omega)
theorem cp54 {σ : fhM} {k : Nat} {v : Int32} (h : k < 1024) : fcP σ 54 (nI k) v = fhI σ 55 k v := fcP_at rfl h (by omega)
theorem cg58 {σ : fhM} {k : Nat} (h : k < 1024) : fcG σ 58 (nI k) = σ.1 59 k := fcG_at rfl h (by omega)
theorem cp58 {σ : fhM} {k : Nat} {v : Int32} (h : k < 1024) : fcP σ 58 (nI k) v = fhI σ 59 k v := fcP_at rfl h (by omega)
theorem cg60 {σ : fhM} {k : Nat} (h : k < 1024) : fcG σ 60 (nI k) = σ.1 61 k := fcG_at rfl h (by omega)
theorem cp60 {σ : fhM} {k : Nat} {v : Int32} (h : k < 1024) : fcP σ 60 (nI k) v = fhI σ 61 k v := fcP_at rfl h (by omega)
theorem cg62 {σ : fhM} {k : Nat} (h : k < 5) : fcG σ 62 (nI k) = σ.1 63 k := fcG_at rfl h (by omega)
theorem cp62 {σ : fhM} {k : Nat} {v : Int32} (h : k < 5) : fcP σ 62 (nI k) v = fhI σ 63 k v := fcP_at rfl h (by omega)
theorem cg64 {σ : fhM} {k : Nat} (h : k < 1024) : fcG σ 64 (nI k) = σ.1 65 k := fcG_at rfl h (by omega)
theorem cp64 {σ : fhM} {k : Nat} {v : Int32} (h : k < 1024) : fcP σ 64 (nI k) v = fhI σ 65 k v := fcP_at rfl h (by omega)
theorem cg66 {σ : fhM} {k : Nat} (h : k < 1024) : fcG σ 66 (nI k) = σ.1 67 k := fcG_at rfl h (by omega)
theorem cp66 {σ : fhM} {k : Nat} {v : Int32} (h : k < 1024) : fcP σ 66 (nI k) v = fhI σ 67 k v := fcP_at rfl h (by omega)
theorem cg68 {σ : fhM} {k : Nat} (h : k < 256) : fcG σ 68 (nI k) = σ.1 69 k := fcG_at rfl h (by omega)
theorem cp68 {σ : fhM} {k : Nat} {v : Int32} (h : k < 256) : fcP σ 68 (nI k) v = fhI σ 69 k v := fcP_at rfl h (by omega)
theorem cg70 {σ : fhM} {k : Nat} (h : k < 256) : fcG σ 70 (nI k) = σ.1 71 k := fcG_at rfl h (by omega)
theorem cp70 {σ : fhM} {k : Nat} {v : Int32} (h : k < 256) : fcP σ 70 (nI k) v = fhI σ 71 k v := fcP_at rfl h (by omega)
theorem cg72 {σ : fhM} {k : Nat} (h : k < 1024) : fcG σ 72 (nI k) = σ.1 73 k := fcG_at rfl h (by omega)
theorem cp72 {σ : fhM} {k : Nat} {v : Int32} (h : k < 1024) : fcP σ 72 (nI k) v = fhI σ 73 k v := fcP_at rfl h (by omega)
theorem cg74 {σ : fhM} {k : Nat} (h : k < 1024) : fcG σ 74 (nI k) = σ.1 75 k := fcG_at rfl h (by omega)
theorem cp74 {σ : fhM} {k : Nat} {v : Int32} (h : k < 1024) : fcP σ 74 (nI k) v = fhI σ 75 k v := fcP_at rfl h (by omega)
theorem cg77 {σ : fhM} {k : Nat} (h : k < 1024) : fcG σ 77 (nI k) = σ.1 78 k := fcG_at rfl h (by omega)
theorem cp77 {σ : fhM} {k : Nat} {v : Int32} (h : k < 1024) : fcP σ 77 (nI k) v = fhI σ 78 k v := fcP_at rfl h (by omega)
theorem cg79 {σ : fhM} {k : Nat} (h : k < 1024) : fcG σ 79 (nI k) = σ.1 80 k := fcG_at rfl h (by omega)
theorem cp79 {σ : fhM} {k : Nat} {v : Int32} (h : k < 1024) : fcP σ 79 (nI k) v = fhI σ 80 k v := fcP_at rfl h (by omega)
theorem cg81 {σ : fhM} {k : Nat} (h : k < 1025) : fcG σ 81 (nI k) = σ.1 82 k := fcG_at rfl h (by omega)
theorem cp81 {σ : fhM} {k : Nat} {v : Int32} (h : k < 1025) : fcP σ 81 (nI k) v = fhI σ 82 k v := fcP_at rfl h (by omega)
theorem cg83 {σ : fhM} {k : Nat} (h : k < 1025) : fcG σ 83 (nI k) = σ.1 84 k := fcG_at rfl h (by omega)
theorem cp83 {σ : fhM} {k : Nat} {v : Int32} (h : k < 1025) : fcP σ 83 (nI k) v = fhI σ 84 k v := fcP_at rfl h (by omega)
theorem cg85 {σ : fhM} {k : Nat} (h : k < 1024) : fcG σ 85 (nI k) = σ.1 86 k := fcG_at rfl h (by omega)
theorem cp85 {σ : fhM} {k : Nat} {v : Int32} (h : k < 1024) : fcP σ 85 (nI k) v = fhI σ 86 k v := fcP_at rfl h (by omega)
theorem cg87 {σ : fhM} {k : Nat} (h : k < 5120) : fcG σ 87 (nI k) = σ.1 88 k := fcG_at rfl h (by omega)
theorem cp87 {σ : fhM} {k : Nat} {v : Int32} (h : k < 5120) : fcP σ 87 (nI k) v = fhI σ 88 k v := fcP_at rfl h (by omega)
theorem cg89 {σ : fhM} {k : Nat} (h : k < 48) : fcG σ 89 (nI k) = σ.1 90 k := fcG_at rfl h (by omega)
theorem cp89 {σ : fhM} {k : Nat} {v : Int32} (h : k < 48) : fcP σ 89 (nI k) v = fhI σ 90 k v := fcP_at rfl h (by omega)
theorem cg91 {σ : fhM} {k : Nat} (h : k < 1024) : fcG σ 91 (nI k) = σ.1 92 k := fcG_at rfl h (by omega)
theorem cp91 {σ : fhM} {k : Nat} {v : Int32} (h : k < 1024) : fcP σ 91 (nI k) v = fhI σ 92 k v := fcP_at rfl h (by omega)
theorem cg94 {σ : fhM} {k : Nat} (h : k < 2048) : fcG σ 94 (nI k) = σ.1 95 k := fcG_at rfl h (by omega)
theorem cp94 {σ : fhM} {k : Nat} {v : Int32} (h : k < 2048) : fcP σ 94 (nI k) v = fhI σ 95 k v := fcP_at rfl h (by omega)
theorem cg96 {σ : fhM} {k : Nat} (h : k < 700) : fcG σ 96 (nI k) = σ.1 97 k := fcG_at rfl h (by omega)
theorem cp96 {σ : fhM} {k : Nat} {v : Int32} (h : k < 700) : fcP σ 96 (nI k) v = fhI σ 97 k v := fcP_at rfl h (by omega)
theorem cg98 {σ : fhM} {k : Nat} (h : k < 136) : fcG σ 98 (nI k) = σ.1 99 k := fcG_at rfl h (by omega)
theorem cp98 {σ : fhM} {k : Nat} {v : Int32} (h : k < 136) : fcP σ 98 (nI k) v = fhI σ 99 k v := fcP_at rfl h (by omega)
theorem cg100 {σ : fhM} {k : Nat} (h : k < 6) : fcG σ 100 (nI k) = σ.1 101 k := fcG_at rfl h (by omega)
theorem cp100 {σ : fhM} {k : Nat} {v : Int32} (h : k < 6) : fcP σ 100 (nI k) v = fhI σ 101 k v := fcP_at rfl h (by omega)
