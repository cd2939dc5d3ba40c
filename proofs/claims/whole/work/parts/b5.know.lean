/-! WHO KNOWS: the marks held in a list of rows, by view; the class finds those who know -/
def msk (W : gW) (l : List Nat) (i v : Nat) : Nat := l.foldl (fun b r => if W.vw r i = v then b ||| 2 ^ W.mk r i else b) 0
def one (x : Nat) : Bool := decide (x ≠ 0) && decide (x &&& (x - 1) = 0)
def kbN (W : gW) (l : List Nat) (r k : Nat) : Nat := (List.range k).foldl (fun b i => if one (msk W l i (W.vw r i)) = true then b ||| 2 ^ i else b) 0
def kb (W : gW) (l : List Nat) (r : Nat) : Nat := kbN W l r W.g
theorem msk_s (W : gW) (l : List Nat) (x i v : Nat) : msk W (l ++ [x]) i v = if W.vw x i = v then msk W l i v ||| 2 ^ W.mk x i else msk W l i v := by
  unfold msk
  rw [List.foldl_append]
  rfl
theorem kbN_s (W : gW) (l : List Nat) (r k : Nat) : kbN W l r (k + 1) = if one (msk W l k (W.vw r k)) = true then kbN W l r k ||| 2 ^ k else kbN W l r k := by
  unfold kbN
  rw [List.range_succ, List.foldl_append]
  rfl
theorem kbN_lt (W : gW) (l : List Nat) (r k : Nat) : kbN W l r k < 2 ^ k := by
  induction k with
  | zero => exact Nat.le_refl 1
  | succ k ih =>
    rw [kbN_s]
    have h2 : 2 ^ k < 2 ^ (k + 1) := Nat.pow_lt_pow_right (by decide) (by omega)
    split
    · exact Nat.or_lt_two_pow (by omega) h2
    · omega
theorem kb_lt {W : gW} (hW : wOK W) (l : List Nat) (r : Nat) : kb W l r < 32 := by
  have h1 := kbN_lt W l r W.g
  have h2 : 2 ^ W.g ≤ 2 ^ 5 := Nat.pow_le_pow_right (by decide) hW.1
  unfold kb
  omega
/-- testing a knower's bit -/
theorem kbN_bit (W : gW) (l : List Nat) (r : Nat) : ∀ k i, (kbN W l r k).testBit i = (decide (i < k) && one (msk W l i (W.vw r i))) := by
  intro k
  induction k with
  | zero => intro i; rw [decide_eq_false (Nat.not_lt_zero i)]; exact Nat.zero_testBit i
  | succ k ih =>
    intro i
    rw [kbN_s]
    by_cases q : one (msk W l k (W.vw r k)) = true
    · rw [if_pos q, Nat.testBit_or, ih, Nat.testBit_two_pow]
      by_cases h : i = k
      · subst h
        rw [q, decide_eq_true rfl, decide_eq_true (Nat.lt_succ_self i), Bool.or_true, Bool.and_true]
      · rw [decide_eq_false (fun z : k = i => h z.symm), Bool.or_false]
        by_cases h2 : i < k
        · rw [decide_eq_true h2, decide_eq_true (show i < k + 1 by omega)]
        · rw [decide_eq_false h2, decide_eq_false (show ¬ i < k + 1 by omega)]
    · rw [if_neg q, ih]
      by_cases h : i = k
      · subst h
        have q' : one (msk W l i (W.vw r i)) = false := by
          cases e : one (msk W l i (W.vw r i)) with
          | true => exact absurd e q
          | false => rfl
        rw [decide_eq_false (Nat.lt_irrefl i), decide_eq_true (Nat.lt_succ_self i), q']
        rfl
      · by_cases h2 : i < k
        · rw [decide_eq_true h2, decide_eq_true (show i < k + 1 by omega)]
        · rw [decide_eq_false h2, decide_eq_false (show ¬ i < k + 1 by omega)]
theorem msk_lt {W : gW} {l : List Nat} {i v : Nat} (h : ∀ r ∈ l, W.mk r i < 4) : msk W l i v < 16 := by
  have key : ∀ (l : List Nat) (b : Nat), b < 16 → (∀ r ∈ l, W.mk r i < 4) → l.foldl (fun b r => if W.vw r i = v then b ||| 2 ^ W.mk r i else b) b < 16 := by
    intro l
    induction l with
    | nil => intro b hb _; exact hb
    | cons x r ih =>
      intro b hb h
      refine ih _ ?_ (fun y hy => h y (List.mem_cons_of_mem _ hy))
      have hx := h x List.mem_cons_self
      have h2 : 2 ^ W.mk x i < 2 ^ 4 := Nat.pow_lt_pow_right (by decide) hx
      dsimp only
      split
      · exact Nat.or_lt_two_pow (n := 4) hb h2
      · exact hb
  exact key l 0 (by decide) h
theorem msk_no {W : gW} {l : List Nat} {i v : Nat} (h : ∀ r ∈ l, W.vw r i ≠ v) : msk W l i v = 0 := by
  have key : ∀ (l : List Nat) (b : Nat), (∀ r ∈ l, W.vw r i ≠ v) → l.foldl (fun b r => if W.vw r i = v then b ||| 2 ^ W.mk r i else b) b = b := by
    intro l
    induction l with
    | nil => intro b _; rfl
    | cons x r ih =>
      intro b h
      show r.foldl _ (if W.vw x i = v then b ||| 2 ^ W.mk x i else b) = b
      rw [if_neg (h x List.mem_cons_self)]
      exact ih b (fun y hy => h y (List.mem_cons_of_mem _ hy))
  exact key l 0 h
def bcn (v0 : Int32) : Int32 :=
  let w1 := v0 - ((fhus v0 (1 : Int32)) &&& (1431655765 : Int32))
  let w2 := (w1 &&& (858993459 : Int32)) + ((fhus w1 (2 : Int32)) &&& (858993459 : Int32))
  let w3 := (w2 + (fhus w2 (4 : Int32))) &&& (252645135 : Int32)
  let w4 := (w3 + (fhus w3 (8 : Int32))) + (fhus (w3 + (fhus w3 (8 : Int32))) (16 : Int32))
  w4 &&& (63 : Int32)
theorem bcn_e (v : Int32) (σ : fhM) : f_J6_bitCount_0f7a4 v σ = bcn v := rfl
theorem bcn_1 : ∀ x, x < 16 → ((bcn (nI x) = (1 : Int32)) ↔ one x = true) := by decide +kernel
/-- the class's tables, for those who know -/
def rwF (W : gW) (σ : fhM) : Prop := σ.1 39 9 = nI W.g ∧ (∀ r i, r < W.N → i < W.g → σ.1 43 (r * 5 + i) = nI (W.mk r i)) ∧ (∀ r i, r < W.N → i < W.g → σ.1 45 (r * 5 + i) = nI (W.vw r i))
theorem tbF_rw {W : gW} {σ : fhM} (h : tbF W W.N σ) : rwF W σ := ⟨h.2.1, h.2.2.2.2.2.2.2.1, h.2.2.2.2.2.2.2.2.1⟩
theorem rwF_U {W : gW} {σ : fhM} {t : Nat} {g : Nat → Int32} (h : rwF W σ) (h1 : t ≠ 39) (h2 : t ≠ 43) (h3 : t ≠ 45) : rwF W (fhU σ t g) := ⟨by rw [fhU_o (Ne.symm h1)]; exact h.1, fun r i a b => by rw [fhU_o (Ne.symm h2)]; exact h.2.1 r i a b, fun r i a b => by rw [fhU_o (Ne.symm h3)]; exact h.2.2 r i a b⟩
theorem c_markOf {W : gW} (hW : wOK W) {σ : fhM} (h : rwF W σ) {r i : Nat} (hr : r < W.N) (hi : i < W.g) : f_X9_markOf (nI r) (nI i) σ = nI (W.mk r i) := by
  have h1 := hW.1
  have h2 := hW.2.1
  unfold f_X9_markOf
  rw [show (5 : Int32) = nI 5 from rfl, pk_mul, nI_add, cg42 (by omega)]
  exact h.2.1 r i hr hi
theorem c_viewOf {W : gW} (hW : wOK W) {σ : fhM} (h : rwF W σ) {r i : Nat} (hr : r < W.N) (hi : i < W.g) : f_X9_viewOf (nI r) (nI i) σ = nI (W.vw r i) := by
  have h1 := hW.1
  have h2 := hW.2.1
  unfold f_X9_viewOf
  rw [show (5 : Int32) = nI 5 from rfl, pk_mul, nI_add, cg44 (by omega)]
  exact h.2.2 r i hr hi
theorem take_s {l : List Nat} {k : Nat} (h : k < l.length) : l.take (k + 1) = l.take k ++ [l.getD k 0] := by
  have : l[k]? = some l[k] := List.getElem?_eq_getElem h
  rw [List.take_add_one, this, List.getD_eq_getElem?_getD, this]
  rfl
theorem getD_mem {l : List Nat} {k : Nat} (h : k < l.length) : l.getD k 0 ∈ l := by
  have : l[k]? = some l[k] := List.getElem?_eq_getElem h
  rw [List.getD_eq_getElem?_getD, this]
  exact List.mem_of_getElem? this
/-- a list of rows at place lp -/
def lsF (W : gW) (lp a : Nat) (l : List Nat) (σ : fhM) : Prop := (∀ r ∈ l, r < W.N) ∧ a + l.length ≤ 1024 ∧ ∀ k, k < l.length → fcG σ lp (nI (a + k)) = nI (l.getD k 0)
theorem lsF_U {W : gW} {lp a t : Nat} {l : List Nat} {σ : fhM} {g : Nat → Int32} (h : lsF W lp a l σ) (ht : lp + 1 ≠ t) : lsF W lp a l (fhU σ t g) := ⟨h.1, h.2.1, fun k hk => by rw [fcG_U ht]; exact h.2.2 k hk⟩
theorem c_know {W : gW} (hW : wOK W) {lp kp a : Nat} {l : List Nat} {σ : fhM} (hrw : rwF W σ) (hl : lsF W lp a l σ) (hz : ∀ j, j < 1024 → σ.1 49 j = 0) (hN : fcL kp = 1024) (n1 : lp + 1 ≠ 49) (n2 : lp + 1 ≠ kp + 1) (n3 : kp + 1 ≠ 49) (n4 : kp + 1 ≠ 39) (n5 : kp + 1 ≠ 43) (n6 : kp + 1 ≠ 45) :
    wq (f_X9_findKnowers lp (nI a) (nI (a + l.length)) kp σ) (fun s => ∃ t, s = fhU σ (kp + 1) t ∧ (∀ r ∈ l, t r = nI (kb W l r)) ∧ ∀ j, j ∉ l → t j = σ.1 (kp + 1) j) := by
  have hg5 := hW.1
  have hN10 := hW.2.1
  obtain ⟨l1, l2, l3⟩ := hl
  have kP : ∀ {σ : fhM} {k : Nat} {v : Int32}, k < 1024 → fcP σ kp (nI k) v = fhI σ (kp + 1) k v := fun h => fcP_at hN h (by omega)
  have kG : ∀ {σ : fhM} {k : Nat}, k < 1024 → fcG σ kp (nI k) = σ.1 (kp + 1) k := fun h => fcG_at hN h (by omega)
  have hgl : ∀ k, k < l.length → l.getD k 0 < W.N := fun k hk => l1 _ (getD_mem hk)
  unfold f_X9_findKnowers
  refine wq_for (R := fun k x => ∃ t, x = (nI (a + k), fhU σ (kp + 1) t) ∧ (∀ r ∈ l.take k, t r = 0) ∧ ∀ j, j ∉ l.take k → t j = σ.1 (kp + 1) j) 0 l.length (Nat.zero_le _) ?_ ?_ ⟨σ.1 (kp + 1), ?_, ?_, fun j _ => rfl⟩
  · rintro k x - hk ⟨t, rfl, h1, h2⟩
    (try dsimp only)
    unfold f_X9_findKnowers_3
    have hx := hgl k hk
    rw [if_neg (nI_ge (by omega) (by omega)), fcG_U n2, l3 k hk, kP (by omega), fhU_I, nI_1, wq_some, fhK_l]
    refine ⟨_, rfl, fun r hr => ?_, fun j hj => ?_⟩
    · (try dsimp only)
      by_cases q : r = l.getD k 0
      · rw [if_pos q]
      · rw [if_neg q]
        rw [take_s hk] at hr
        exact h1 r ((List.mem_append.mp hr).elim id (fun z => absurd (List.mem_singleton.mp z) q))
    · (try dsimp only)
      rw [take_s hk] at hj
      rw [if_neg (fun z => hj (List.mem_append.mpr (Or.inr (List.mem_singleton.mpr z))))]
      exact h2 j (fun z => hj (List.mem_append.mpr (Or.inl z)))
  · rintro x ⟨t0, rfl, h1, h2⟩
    (try dsimp only)
    unfold f_X9_findKnowers_3
    rw [if_pos (nI_le (Nat.le_refl _) (by omega)), wq_map]
    rw [List.take_length] at h1 h2
    refine wq_for (R := fun i x => ∃ t, x = (nI i, fhU σ (kp + 1) t) ∧ (∀ r ∈ l, t r = nI (kbN W l r i)) ∧ ∀ j, j ∉ l → t j = σ.1 (kp + 1) j) 0 W.g (Nat.zero_le _) ?_ ?_ ⟨t0, rfl, h1, h2⟩
    · rintro i x - hi ⟨t, rfl, k1, k2⟩
      (try dsimp only)
      unfold f_X9_findKnowers_30
      have hrw1 : ∀ g, rwF W (fhU (fhU σ (kp + 1) t) 49 g) := fun g => rwF_U (rwF_U hrw n4 n5 n6) (by decide) (by decide) (by decide)
      rw [fhU_o (Ne.symm n4), hrw.1, if_neg (nI_ge hi (by omega))]
      -- marks held
      refine wq_for (R := fun k x => ∃ g, x = (nI (a + k), fhU (fhU σ (kp + 1) t) 49 g) ∧ (∀ j, j < 1024 → g j = nI (msk W (l.take k) i j)) ∧ ∀ j, 1024 ≤ j → g j = σ.1 49 j) 0 l.length (Nat.zero_le _) ?_ ?_ ⟨(fhU σ (kp + 1) t).1 49, by rw [fhU_id (fun _ => rfl)]; rfl, fun j hj => by rw [fhU_o (Ne.symm n3), hz j hj]; rfl, fun j _ => by rw [fhU_o (Ne.symm n3)]⟩
      · rintro k x - hk ⟨g, rfl, g1, g2⟩
        (try dsimp only)
        unfold f_X9_findKnowers_42
        have hx := hgl k hk
        have hv := hW.2.2.2.2.2.1 _ i hx
        have hm := hW.2.2.2.2.1 _ i hx
        rw [if_neg (nI_ge (by omega) (by omega)), fcG_U n1, fcG_U n2, l3 k hk, c_viewOf hW (hrw1 g) hx hi, c_markOf hW (hrw1 g) hx hi, cg48 (by omega), fhU_e, g1 _ (by omega), ph_shl1 (by omega), ph_or, cp48 (by omega), fhU_I, nI_1, wq_some, fhK_l]
        refine ⟨_, rfl, fun j hj => ?_, fun j hj => ?_⟩
        · (try dsimp only)
          rw [take_s hk, msk_s]
          by_cases q : j = W.vw (l.getD k 0) i
          · rw [if_pos q, if_pos q.symm, q]
          · rw [if_neg q, if_neg (fun z => q z.symm)]
            exact g1 j hj
        · (try dsimp only)
          rw [if_neg (by omega)]
          exact g2 j hj
      · rintro x ⟨g, rfl, g1, g2⟩
        (try dsimp only)
        unfold f_X9_findKnowers_42
        rw [if_pos (nI_le (Nat.le_refl _) (by omega)), wq_map]
        rw [List.take_length] at g1
        -- who knows by them
        refine wq_for (R := fun k x => ∃ t2, x = (nI (a + k), fhU (fhU σ (kp + 1) t2) 49 g) ∧ (∀ r ∈ l, t2 r = nI (if r ∈ l.take k then kbN W l r (i + 1) else kbN W l r i)) ∧ ∀ j, j ∉ l → t2 j = σ.1 (kp + 1) j) 0 l.length (Nat.zero_le _) ?_ ?_ ⟨t, rfl, fun r hr => by rw [k1 r hr, if_neg (by rw [List.take_zero]; exact fun z => (by cases z))], k2⟩
        · rintro k x - hk ⟨t2, rfl, u1, u2⟩
          (try dsimp only)
          unfold f_X9_findKnowers_104 f_X9_findKnowers_159
          have hx := hgl k hk
          have hxm := getD_mem hk
          have hv := hW.2.2.2.2.2.1 _ i hx
          have hrw2 : rwF W (fhU (fhU σ (kp + 1) t2) 49 g) := rwF_U (rwF_U hrw n4 n5 n6) (by decide) (by decide) (by decide)
          have hm16 : msk W l i (W.vw (l.getD k 0) i) < 16 := msk_lt (fun r hr => hW.2.2.2.2.1 r i (l1 r hr))
          rw [if_neg (nI_ge (by omega) (by omega)), fcG_U n1, fcG_U n2, l3 k hk, c_viewOf hW hrw2 hx hi, cg48 (by omega), fhU_e, g1 _ (by omega), bcn_e]
          have mem : ∀ r, r ∈ l.take (k + 1) ↔ r ∈ l.take k ∨ r = l.getD k 0 := fun r => by rw [take_s hk, List.mem_append, List.mem_singleton]
          by_cases q : one (msk W l i (W.vw (l.getD k 0) i)) = true
          · rw [if_pos ((bcn_1 _ hm16).mpr q), kG (by omega), fhU_o n3, fhU_e, u1 _ hxm, ph_shl1 (by omega), ph_or, kP (by omega), fhU_IO n3, fhU_I, nI_1, wq_some, fhK_l]
            refine ⟨_, rfl, fun r hr => ?_, fun j hj => ?_⟩
            · (try dsimp only)
              by_cases qr : r = l.getD k 0
              · rw [if_pos qr, if_pos ((mem r).mpr (Or.inr qr)), qr, kbN_s, if_pos q]
                by_cases qt : l.getD k 0 ∈ l.take k
                · rw [if_pos qt, Nat.or_assoc, Nat.or_self]
                · rw [if_neg qt]
              · rw [if_neg qr, u1 r hr]
                by_cases qt : r ∈ l.take k
                · rw [if_pos qt, if_pos ((mem r).mpr (Or.inl qt))]
                · rw [if_neg qt, if_neg (fun z => ((mem r).mp z).elim qt qr)]
            · (try dsimp only)
              rw [if_neg (fun z => hj (by rw [z]; exact hxm))]
              exact u2 j hj
          · rw [if_neg (fun z => q ((bcn_1 _ hm16).mp z)), nI_1, wq_some, fhK_l]
            refine ⟨t2, rfl, fun r hr => ?_, u2⟩
            rw [u1 r hr]
            by_cases qr : r = l.getD k 0
            · rw [if_pos ((mem r).mpr (Or.inr qr)), qr, kbN_s, if_neg q]
              split <;> rfl
            · by_cases qt : r ∈ l.take k
              · rw [if_pos qt, if_pos ((mem r).mpr (Or.inl qt))]
              · rw [if_neg qt, if_neg (fun z => ((mem r).mp z).elim qt qr)]
        · rintro x ⟨t2, rfl, u1, u2⟩
          (try dsimp only)
          unfold f_X9_findKnowers_104
          rw [if_pos (nI_le (Nat.le_refl _) (by omega)), wq_map]
          rw [List.take_length] at u1
          -- all 0 again
          refine wq_for (R := fun k x => ∃ g3, x = (nI (a + k), fhU (fhU σ (kp + 1) t2) 49 g3) ∧ (∀ j, (∃ r ∈ l.take k, W.vw r i = j) → g3 j = 0) ∧ ∀ j, ¬ (∃ r ∈ l.take k, W.vw r i = j) → g3 j = g j) 0 l.length (Nat.zero_le _) ?_ ?_ ⟨g, rfl, fun j hj => ?_, fun j _ => rfl⟩
          · rintro k x - hk ⟨g3, rfl, v1, v2⟩
            (try dsimp only)
            unfold f_X9_findKnowers_168
            have hx := hgl k hk
            have hv := hW.2.2.2.2.2.1 _ i hx
            have hrw2 : rwF W (fhU (fhU σ (kp + 1) t2) 49 g3) := rwF_U (rwF_U hrw n4 n5 n6) (by decide) (by decide) (by decide)
            rw [if_neg (nI_ge (by omega) (by omega)), fcG_U n1, fcG_U n2, l3 k hk, c_viewOf hW hrw2 hx hi, cp48 (by omega), fhU_I, nI_1, wq_some, fhK_l]
            have mem : ∀ r, r ∈ l.take (k + 1) ↔ r ∈ l.take k ∨ r = l.getD k 0 := fun r => by rw [take_s hk, List.mem_append, List.mem_singleton]
            refine ⟨_, rfl, fun j hj => ?_, fun j hj => ?_⟩
            · (try dsimp only)
              by_cases q : j = W.vw (l.getD k 0) i
              · rw [if_pos q]
              · rw [if_neg q]
                obtain ⟨r, hr, hrj⟩ := hj
                refine v1 j ⟨r, ((mem r).mp hr).elim id (fun z => ?_), hrj⟩
                rw [z] at hrj
                exact absurd hrj.symm q
            · (try dsimp only)
              rw [if_neg (fun z => hj ⟨l.getD k 0, (mem _).mpr (Or.inr rfl), z.symm⟩)]
              exact v2 j (fun ⟨r, hr, hrj⟩ => hj ⟨r, (mem r).mpr (Or.inl hr), hrj⟩)
          · rintro x ⟨g3, rfl, v1, v2⟩
            (try dsimp only)
            unfold f_X9_findKnowers_168
            rw [List.take_length] at v1 v2
            rw [if_pos (nI_le (Nat.le_refl _) (by omega)), nI_1, wq_some, fhK_r, fhK_r, fhK_r, fhK_l]
            refine ⟨t2, ?_, fun r hr => by rw [u1 r hr, if_pos hr], u2⟩
            rw [fhU_id (fun j => ?_)]
            rw [fhU_o (Ne.symm n3)]
            by_cases q : ∃ r ∈ l, W.vw r i = j
            · rw [v1 j q]
              obtain ⟨r, hr, hrj⟩ := q
              have := hW.2.2.2.2.2.1 r i (l1 r hr)
              exact (hz j (by omega)).symm
            · rw [v2 j q]
              rcases Nat.lt_or_ge j 1024 with hj | hj
              · rw [g1 j hj, hz j hj, msk_no (fun r hr z => q ⟨r, hr, z⟩)]
                rfl
              · exact g2 j hj
          · obtain ⟨r, hr, _⟩ := hj
            rw [List.take_zero] at hr
            cases hr
    · rintro x ⟨t, rfl, k1, k2⟩
      (try dsimp only)
      unfold f_X9_findKnowers_30
      rw [fhU_o (Ne.symm n4), hrw.1, if_pos (nI_le (Nat.le_refl _) (by omega)), wq_some, fhK_r, fhK_r]
      exact ⟨t, rfl, k1, k2⟩
  · rw [fhU_id (fun _ => rfl)]
    rfl
  · intro r hr
    rw [List.take_zero] at hr
    cases hr
