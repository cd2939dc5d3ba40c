/-! HINTS AND SECRETS: the fewest facts -/
def pc (x : Nat) : Nat := (List.range 8).foldl (fun n i => if x.testBit i = true then n + 1 else n) 0
theorem pc_bcn : ∀ x, x < 256 → bcn (nI x) = nI (pc x) := by decide +kernel
theorem pc_dn : ∀ x, x < 256 → x ≠ 0 → pc (x &&& (x - 1)) + 1 = pc x ∧ x &&& (x - 1) < x := by decide +kernel
theorem pc_le : ∀ x, x < 256 → pc x ≤ 8 := by decide +kernel
theorem m_bits {x : Nat} (hx : x < 256) (σ : fhM) : f_X12_bits (nI x) σ = some (nI (pc x)) := by
  refine wq_eq ?_
  unfold f_X12_bits
  refine wq_loop (Inv := fun y => ∃ a b, y = (nI a, nI b) ∧ b < 256 ∧ a + pc b = pc x) (μ := fun y => y.2.toNatClampNeg) ?_ ⟨0, x, rfl, hx, Nat.zero_add _⟩
  rintro y ⟨a, b, rfl, hb, hab⟩
  (try dsimp only)
  unfold f_X12_bits_4
  by_cases q : b = 0
  · rw [if_pos (show nI b = 0 by rw [q]; rfl), wq_some, fhK_r]
    rw [q, show pc 0 = 0 from rfl, Nat.add_zero] at hab
    rw [hab]
  · obtain ⟨h1, h2⟩ := pc_dn b hb q
    rw [if_neg (nI_ne0 (by omega) (by omega)), nI_dec (by omega), ph_and, nI_1, wq_some, fhK_l]
    refine ⟨⟨a + 1, _, rfl, by omega, by omega⟩, ?_⟩
    show (nI (b &&& (b - 1))).toNatClampNeg < (nI b).toNatClampNeg
    rw [nI_clamp (by omega), nI_clamp (by omega)]
    exact h2
/-- one knows, if these facts were said -/
def kby (W : gW) (l : List Nat) (w0 i s : Nat) : Bool := one (msk W (l.filter (fun r => decide ((W.tr r ^^^ W.tr w0) &&& s = 0))) i (W.vw w0 i))
def oI (o : Option Nat) : Int32 := match o with
  | none => -1
  | some b => nI b
theorem if_oI (c : Bool) (k : Nat) (o : Option Nat) : (if c = true then nI k else oI o) = oI (if c = true then some k else o) := by
  cases c
  · rw [if_neg (by decide), if_neg (by decide)]
  · rw [if_pos rfl, if_pos rfl]; rfl
def btr (o : Option Nat) (s : Nat) : Bool := match o with
  | none => true
  | some b => decide (pc s < pc b)
theorem btr_n (s : Nat) : btr none s = true := rfl
theorem btr_t {b s : Nat} (h : pc s < pc b) : btr (some b) s = true := decide_eq_true h
theorem btr_f {b s : Nat} (h : ¬ pc s < pc b) : btr (some b) s = false := decide_eq_false h
def fwst (P : Nat → Bool) (n : Nat) : Option Nat := (List.range n).foldl (fun best s => if btr best s && P s then some s else best) none
theorem fwst_s (P : Nat → Bool) (n : Nat) : fwst P (n + 1) = if btr (fwst P n) n && P n then some n else fwst P n := by
  unfold fwst
  rw [List.range_succ, List.foldl_append]
  rfl
theorem fwst_lt {P : Nat → Bool} : ∀ n b, fwst P n = some b → b < n := by
  intro n
  induction n with
  | zero => intro b h; cases h
  | succ n ih =>
    intro b h
    rw [fwst_s] at h
    by_cases q : (btr (fwst P n) n && P n) = true
    · rw [if_pos q] at h
      cases h; exact Nat.lt_succ_self n
    · rw [if_neg q] at h
      exact Nat.lt_succ_of_lt (ih b h)
/-- what is sought: guest i knows, and another, if one is named, does not -/
def wantF (W : gW) (l : List Nat) (w0 i : Nat) (o : Option Nat) (s : Nat) : Bool := kby W l w0 i s && (match o with | none => true | some j => !kby W l w0 j s)
theorem kby_iff {W : gW} (hW : wOK W) {L : Nat → Bool} {w0 i s : Nat} (hw0 : w0 ∈ rl W.N L) : kby W (rl W.N L) w0 i s = true ↔ ∀ r ∈ rl W.N L, W.vw r i = W.vw w0 i → W.mk r i ≠ W.mk w0 i → (W.tr r ^^^ W.tr w0) &&& s ≠ 0 := by
  unfold kby
  rw [one_iff (w0 := w0) (fun r hr => rl_mk hW L i r (List.mem_filter.mp hr).1) (List.mem_filter.mpr ⟨hw0, decide_eq_true (by rw [Nat.xor_self, Nat.zero_and])⟩)]
  constructor
  · intro h r hr hv hm hz
    exact hm (h r (List.mem_filter.mpr ⟨hr, decide_eq_true hz⟩) hv)
  · intro h r hr hv
    obtain ⟨h1, h2⟩ := List.mem_filter.mp hr
    have h2 := of_decide_eq_true h2
    by_cases q : W.mk r i = W.mk w0 i
    · exact q
    · exact absurd h2 (h r h1 hv q)
section
variable {W : gW} {L : Nat → Bool} {w0 rd : Nat}
theorem tr_xor (hW : wOK W) (a b : Nat) : W.tr a ^^^ W.tr b < 2 ^ W.F := Nat.xor_lt_two_pow (hW.2.2.2.2.2.2.2.1 a) (hW.2.2.2.2.2.2.2.1 b)
theorem pF (hW : wOK W) : 2 ^ W.F ≤ 256 := by
  have h2p : 2 ^ W.F ≤ 2 ^ 8 := Nat.pow_le_pow_right (by decide) hW.2.2.1
  omega
/-- the doubts of a guest -/
def dbt (W : gW) (l : List Nat) (w0 i b : Nat) : Bool := l.any (fun r => decide (W.vw r i = W.vw w0 i) && (decide (W.mk r i ≠ W.mk w0 i) && decide (W.tr r ^^^ W.tr w0 = b)))
theorem c_gather (hW : wOK W) {σ : fhM} (hrw : rwF W σ) (hg : gmF W L w0 rd σ) (hw0 : w0 ∈ rl W.N L) (htr : ∀ r, r ∈ rl W.N L → σ.1 53 r = nI (W.tr r)) {i : Nat} (hi : i < W.g) {P : Nat} (hP : P = 68 ∨ P = 70) : wq (f_X4_gatherDoubts (nI i) P σ) (fun s => ∃ d, s = fhU σ (P + 1) d ∧ ∀ b, b < 256 → d b = bI (dbt W (rl W.N L) w0 i b)) := by
  obtain ⟨h8, h9, h10, h73, h75⟩ := hg
  have hN10 := hW.2.1
  have hll := rl_len W.N L
  have hwN := rl_lt _ hw0
  have h256 := pF hW
  have hN : fcL P = 256 := by rcases hP with rfl | rfl <;> rfl
  unfold f_X4_gatherDoubts
  rw [fcW_U hN]
  refine wq_for (R := fun k x => ∃ d, x = (nI k, fhU σ (P + 1) d) ∧ ∀ b, b < 256 → d b = bI (dbt W ((rl W.N L).take k) w0 i b)) 0 (rl W.N L).length (Nat.zero_le _) ?_ ?_ ⟨_, rfl, fun b hb => by rw [if_pos hb]; rfl⟩
  · rintro k x - hk ⟨d, rfl, hd⟩
    (try dsimp only)
    unfold f_X4_gatherDoubts_6 f_X4_gatherDoubts_91
    have hxm := getD_mem hk
    have hx := rl_lt _ hxm
    have hrw1 : rwF W (fhU σ (P + 1) d) := rwF_U hrw (by omega) (by omega) (by omega)
    have hxr := tr_xor hW ((rl W.N L).getD k 0) w0
    have hm1 := hW.2.2.2.2.1 _ i hx
    have hm2 := hW.2.2.2.2.1 _ i hwN
    have e9 : (fhU σ (P + 1) d).1 56 9 = nI w0 := by rw [fhU_o (by omega)]; exact h9
    have hdb : ∀ b, dbt W ((rl W.N L).take (k + 1)) w0 i b = (dbt W ((rl W.N L).take k) w0 i b || (decide (W.vw ((rl W.N L).getD k 0) i = W.vw w0 i) && (decide (W.mk ((rl W.N L).getD k 0) i ≠ W.mk w0 i) && decide (W.tr ((rl W.N L).getD k 0) ^^^ W.tr w0 = b)))) := fun b => by
      unfold dbt
      rw [take_s hk, List.any_append]
      simp
    rw [fhU_o (by omega), h8, if_neg (nI_ge hk (by omega)), cg72 (by omega), fhU_o (by omega), h73 k hk, e9, c_markOf hW hrw1 hx hi, c_markOf hW hrw1 hwN hi, cg52 (by omega), cg52 (by omega), fhU_o (by omega), fhU_o (by omega), htr _ hxm, htr _ hw0, ph_xor, fcP_at hN (show W.tr ((rl W.N L).getD k 0) ^^^ W.tr w0 < 256 by omega) (by omega), fhU_I, nI_1]
    simp only [c_isRowOf hW hrw1 e9 hwN hx hi]
    by_cases q : W.vw ((rl W.N L).getD k 0) i = W.vw w0 i
    · rw [if_pos q]
      by_cases q2 : W.mk ((rl W.N L).getD k 0) i = W.mk w0 i
      · rw [if_pos (by rw [q2]), wq_some, fhK_l]
        refine ⟨d, rfl, fun b hb => ?_⟩
        rw [hdb, decide_eq_false (show ¬ W.mk ((rl W.N L).getD k 0) i ≠ W.mk w0 i from fun z => z q2), Bool.false_and, Bool.and_false, Bool.or_false]
        exact hd b hb
      · rw [if_neg (fun z => q2 ((nI_eq (by omega) (by omega)).mp z)), wq_some, fhK_l]
        refine ⟨_, rfl, fun b hb => ?_⟩
        (try dsimp only)
        rw [hdb, decide_eq_true q, decide_eq_true q2, Bool.true_and, Bool.true_and]
        by_cases q3 : b = W.tr ((rl W.N L).getD k 0) ^^^ W.tr w0
        · rw [if_pos q3, decide_eq_true q3.symm, Bool.or_true]; rfl
        · rw [if_neg q3, decide_eq_false (fun z => q3 z.symm), Bool.or_false]
          exact hd b hb
    · rw [if_neg q, wq_some, fhK_l]
      refine ⟨d, rfl, fun b hb => ?_⟩
      rw [hdb, decide_eq_false q, Bool.false_and, Bool.or_false]
      exact hd b hb
  · rintro x ⟨d, rfl, hd⟩
    (try dsimp only)
    unfold f_X4_gatherDoubts_6
    rw [fhU_o (by omega), h8, if_pos (nI_le (Nat.le_refl _) (by omega)), wq_some, fhK_r]
    rw [List.take_length] at hd
    exact ⟨d, rfl, hd⟩
theorem c_cleared (hW : wOK W) {σ : fhM} (h10 : σ.1 39 10 = nI W.F) (hw0 : w0 ∈ rl W.N L) {i : Nat} {P : Nat} (hP : P = 68 ∨ P = 70) (hd : ∀ b, b < 256 → σ.1 (P + 1) b = bI (dbt W (rl W.N L) w0 i b)) {s : Nat} (hs : s < 256) : f_X4_isCleared P (nI s) σ = some (kby W (rl W.N L) w0 i s) := by
  have h256 := pF hW
  have hN : fcL P = 256 := by rcases hP with rfl | rfl <;> rfl
  have hF := hW.2.2.1
  refine wq_eq ?_
  unfold f_X4_isCleared
  have dbI : ∀ b, dbt W (rl W.N L) w0 i b = true ↔ ∃ r ∈ rl W.N L, W.vw r i = W.vw w0 i ∧ W.mk r i ≠ W.mk w0 i ∧ W.tr r ^^^ W.tr w0 = b := fun b => by
    unfold dbt
    rw [List.any_eq_true]
    simp only [Bool.and_eq_true, decide_eq_true_eq]
  refine wq_for (R := fun k x => x = nI k ∧ ∀ b, b < k → dbt W (rl W.N L) w0 i b = true → b &&& s ≠ 0) 0 (2 ^ W.F) (Nat.zero_le _) ?_ ?_ ⟨rfl, fun b hb => absurd hb (Nat.not_lt_zero _)⟩
  · rintro k x - hk ⟨rfl, hno⟩
    (try dsimp only)
    unfold f_X4_isCleared_2 f_X4_isCleared_31
    have hks : k &&& s ≤ k := Nat.and_le_left
    rw [h10, ph_shl1 (by omega), if_neg (nI_ge hk (by omega)), fcG_at hN (show k < 256 by omega) (by omega), hd k (by omega), ph_and, nI_1]
    simp only [bI_0]
    by_cases q : dbt W (rl W.N L) w0 i k = false
    · rw [if_pos q, wq_some, fhK_l]
      refine ⟨rfl, fun b hb hdb => ?_⟩
      by_cases qb : b = k
      · rw [qb, q] at hdb; cases hdb
      · exact hno b (by omega) hdb
    · have qt : dbt W (rl W.N L) w0 i k = true := by
        cases e : dbt W (rl W.N L) w0 i k with
        | true => rfl
        | false => exact absurd e q
      rw [if_neg q]
      by_cases q2 : k &&& s = 0
      · rw [if_pos (show nI (k &&& s) = 0 by rw [q2]; rfl), wq_some, fhK_r]
        symm
        rw [← Bool.not_eq_true, kby_iff hW hw0]
        intro z
        obtain ⟨r, hr, a1, a2, a3⟩ := (dbI k).mp qt
        have := z r hr a1 a2
        rw [a3] at this
        exact this q2
      · rw [if_neg (show ¬ nI (k &&& s) = 0 by rw [nI_eq0 (by omega)]; exact q2), wq_some, fhK_l]
        refine ⟨rfl, fun b hb hdb => ?_⟩
        by_cases qb : b = k
        · rw [qb]; exact q2
        · exact hno b (by omega) hdb
  · rintro x ⟨rfl, hno⟩
    (try dsimp only)
    unfold f_X4_isCleared_2
    rw [h10, ph_shl1 (by omega), if_pos (nI_le (Nat.le_refl _) (by omega)), wq_some, fhK_r]
    symm
    rw [kby_iff hW hw0]
    intro r hr hv hm
    exact hno _ (tr_xor hW r w0) ((dbI _).mpr ⟨r, hr, hv, hm, rfl⟩)
theorem c_try (hW : wOK W) {s : fhM} (h10 : s.1 39 10 = nI W.F) (hw0 : w0 ∈ rl W.N L) {i : Nat} {o : Option Nat} (ho : ∀ j, o = some j → j < W.g) (hd1 : ∀ b, b < 256 → s.1 69 b = bI (dbt W (rl W.N L) w0 i b)) (hd2 : ∀ j, o = some j → ∀ b, b < 256 → s.1 71 b = bI (dbt W (rl W.N L) w0 j b)) {k : Nat} (hk : k < 256) (v3 : Int32) : f_X4_fewestFacts_59 (oI o) v3 (nI k) s = some (.inl (if wantF W (rl W.N L) w0 i o k = true then nI k else v3, nI (k + 1))) := by
  have hg5 := hW.1
  unfold f_X4_fewestFacts_59 f_X4_fewestFacts_64 f_X4_fewestFacts_102 f_X4_fewestFacts_105
  have c1 := c_cleared hW h10 hw0 (Or.inl rfl) hd1 (s := k) hk
  rw [if_neg (show ¬ (1 : Int32) = 0 by decide), c1, nI_1]
  by_cases q : kby W (rl W.N L) w0 i k = true
  · cases o with
    | none =>
      have w1 : wantF W (rl W.N L) w0 i none k = true := by
        unfold wantF
        rw [q]; rfl
      rw [w1, q, if_pos (rfl : true = true)]
      rfl
    | some j =>
      have hj := ho j rfl
      have c2 := c_cleared hW h10 hw0 (Or.inr rfl) (hd2 j rfl) (s := k) hk
      have w1 : wantF W (rl W.N L) w0 i (some j) k = !kby W (rl W.N L) w0 j k := by
        unfold wantF
        rw [q]; exact Bool.true_and _
      rw [if_neg (show ¬ oI (some j) = (-1 : Int32) from ph_m1n (by omega)), c2, w1, q]
      cases kby W (rl W.N L) w0 j k <;> rfl
  · have qf : kby W (rl W.N L) w0 i k = false := by
      cases e : kby W (rl W.N L) w0 i k with
      | true => exact absurd e q
      | false => rfl
    have w1 : wantF W (rl W.N L) w0 i o k = false := by
      unfold wantF
      rw [qf]; exact Bool.false_and _
    rw [w1, qf]
    rfl
theorem c_fewest (hW : wOK W) {σ : fhM} (hrw : rwF W σ) (hF : σ.1 39 10 = nI W.F) (hg : gmF W L w0 rd σ) (hw0 : w0 ∈ rl W.N L) (htr : ∀ r, r ∈ rl W.N L → σ.1 53 r = nI (W.tr r)) {i : Nat} (hi : i < W.g) {o : Option Nat} (ho : ∀ j, o = some j → j < W.g) :
    wq (f_X4_fewestFacts (nI i) (oI o) σ) (fun r => r.1 = oI (fwst (wantF W (rl W.N L) w0 i o) (2 ^ W.F)) ∧ fpl (fun t => t = 69 ∨ t = 71) σ r.2) := by
  have h256 := pF hW
  have hg5 := hW.1
  have hF8 := hW.2.2.1
  have main : ∀ s : fhM, s.1 39 10 = nI W.F → (∀ b, b < 256 → s.1 69 b = bI (dbt W (rl W.N L) w0 i b)) → (∀ j, o = some j → ∀ b, b < 256 → s.1 71 b = bI (dbt W (rl W.N L) w0 j b)) → wq (f_X4_fewestFacts_23 (oI o) s) (fun r => r.1 = oI (fwst (wantF W (rl W.N L) w0 i o) (2 ^ W.F)) ∧ r.2 = s) := by
    intro s h10 hd1 hd2
    unfold f_X4_fewestFacts_23
    refine wq_for (R := fun k x => x = (oI (fwst (wantF W (rl W.N L) w0 i o) k), nI k)) 0 (2 ^ W.F) (Nat.zero_le _) ?_ ?_ rfl
    · rintro k x - hk rfl
      (try dsimp only)
      unfold f_X4_fewestFacts_28
      have c1 := c_try hW h10 hw0 ho hd1 hd2 (show k < 256 by omega)
      rw [h10, ph_shl1 (by omega), if_neg (nI_ge hk (by omega)), fwst_s]
      cases hb : fwst (wantF W (rl W.N L) w0 i o) k with
      | none =>
        rw [if_pos (show oI none = (-1 : Int32) from rfl), c1, wq_some, fhK_l]
        rw [btr_n, Bool.true_and, if_oI]
      | some b =>
        have hbk := fwst_lt k b hb
        have p1 := pc_le b (by omega)
        have p2 := pc_le k (by omega)
        rw [if_neg (show ¬ oI (some b) = (-1 : Int32) from ph_m1n (by omega)), bcn_e, bcn_e, show oI (some b) = nI b from rfl, pc_bcn b (by omega), pc_bcn k (by omega)]
        by_cases q : pc k < pc b
        · rw [if_neg (nI_ge q (by omega)), c1, wq_some, fhK_l, btr_t q, Bool.true_and, ← if_oI]
          rfl
        · rw [if_pos (nI_le (by omega) (by omega)), btr_f q, Bool.false_and, if_neg (by decide)]
          unfold f_X4_fewestFacts_64 f_X4_fewestFacts_105
          rw [if_pos (show (0 : Int32) = 0 from rfl), wq_some, fhK_l, nI_1]
          rfl
    · rintro x rfl
      (try dsimp only)
      unfold f_X4_fewestFacts_28
      rw [h10, ph_shl1 (by omega), if_pos (nI_le (Nat.le_refl _) (by omega)), wq_some, fhK_r]
      exact ⟨rfl, rfl⟩
  unfold f_X4_fewestFacts
  rw [wq_bind]
  refine wq_mono (c_gather hW hrw hg hw0 htr hi (Or.inl rfl)) (fun s z => ?_)
  obtain ⟨d, rfl, hd⟩ := z
  cases o with
  | none =>
    rw [if_pos (show oI none = (-1 : Int32) from rfl)]
    refine wq_mono (main (fhU σ (68 + 1) d) (by rw [fhU_o (by decide)]; exact hF) (fun b hb => by rw [fhU_e]; exact hd b hb) (fun j hj => by cases hj)) (fun r z => ?_)
    rw [z.2]
    exact ⟨z.1, fpl_U fpl_rf (by omega)⟩
  | some j =>
    have hj := ho j rfl
    rw [if_neg (show ¬ oI (some j) = (-1 : Int32) from ph_m1n (by omega)), wq_bind]
    obtain ⟨h8, h9, h10, h73, h75⟩ := hg
    have hg1 : gmF W L w0 rd (fhU σ (68 + 1) d) := ⟨by rw [fhU_o (by decide)]; exact h8, by rw [fhU_o (by decide)]; exact h9, by rw [fhU_o (by decide)]; exact h10, fun k hk => by rw [fhU_o (by decide)]; exact h73 k hk, fun r hr => by rw [fhU_o (by decide)]; exact h75 r hr⟩
    refine wq_mono (c_gather hW (rwF_U hrw (by decide) (by decide) (by decide)) hg1 hw0 (fun r hr => by rw [fhU_o (by decide)]; exact htr r hr) hj (Or.inr rfl)) (fun s z => ?_)
    obtain ⟨d2, rfl, hd2⟩ := z
    refine wq_mono (main (fhU (fhU σ (68 + 1) d) (70 + 1) d2) (by rw [fhU_o (by decide), fhU_o (by decide)]; exact hF) (fun b hb => by rw [fhU_o (by decide), fhU_e]; exact hd b hb) (fun j2 hj2 b hb => by cases hj2; rw [fhU_e]; exact hd2 b hb)) (fun r z => ?_)
    rw [z.2]
    exact ⟨z.1, fpl_U (fpl_U fpl_rf (by omega)) (by omega)⟩
theorem m_knowsBy (hW : wOK W) {σ : fhM} (hrw : rwM' W σ) (hg : gmM W L w0 rd σ) (hw0 : w0 ∈ rl W.N L) (h38 : ∀ r, r < W.N → σ.1 38 r = nI (W.tr r)) {i s : Nat} (hi : i < W.g) : f_X12_knowsBy (nI s) (nI i) σ = some (kby W (rl W.N L) w0 i s) := by
  have hN10 := hW.2.1
  have hg5 := hW.1
  have hwN := rl_lt _ hw0
  have h256 := pF hW
  refine wq_eq ?_
  unfold f_X12_knowsBy
  have mlt : ∀ k, k ≤ W.N → msk W ((rl k L).filter (fun r => decide ((W.tr r ^^^ W.tr w0) &&& s = 0))) i (W.vw w0 i) < 16 := fun k hk => msk_lt (fun r hr => hW.2.2.2.2.1 r i (by have := rl_lt r (List.mem_filter.mp hr).1; omega))
  refine wq_for (R := fun k x => x = (nI (msk W ((rl k L).filter (fun r => decide ((W.tr r ^^^ W.tr w0) &&& s = 0))) i (W.vw w0 i)), nI k)) 0 W.N (Nat.zero_le _) ?_ ?_ rfl
  · rintro k x - hk rfl
    (try dsimp only)
    unfold f_X12_knowsBy_5 f_X12_knowsBy_92
    have v1 := hW.2.2.2.2.2.1 k i hk
    have v2 := hW.2.2.2.2.2.1 w0 i hwN
    have hm := hW.2.2.2.2.1 k i hk
    have hxr := tr_xor hW k w0
    have hxs : (W.tr k ^^^ W.tr w0) &&& s ≤ W.tr k ^^^ W.tr w0 := Nat.and_le_left
    rw [hrw.2.2.1, if_neg (nI_ge hk (by omega)), m_isLeft hg.1 (by omega), wq_bind, wq_some, nI_1 k, rl_s]
    by_cases q : L k = true
    · rw [if_pos q, if_pos q, List.filter_append, hg.2.1, show (1024 : Int32) = nI 1024 from rfl, pk_mul, nI_add, nI_add, ph_ix (k := 1024 * i + k) (by omega), ph_ix (k := 1024 * i + w0) (by omega), hrw.2.2.2 k i hk hi, hrw.2.2.2 w0 i hwN hi, ph_in (by omega), ph_in (by omega), decide_eq_true (show 1024 * i + k < 5120 by omega), decide_eq_true (show 1024 * i + w0 < 5120 by omega), if_pos (show (true && (true && true)) = true from rfl)]
      by_cases q2 : W.vw k i = W.vw w0 i
      · rw [if_pos (by rw [q2]), ph_in (by omega), ph_in (by omega), decide_eq_true (show k < 1024 by omega), decide_eq_true (show w0 < 1024 by omega), if_pos (show (true && (true && true)) = true from rfl), ph_ix (by omega), ph_ix (by omega), h38 k hk, h38 w0 hwN, ph_xor, ph_and]
        by_cases q3 : (W.tr k ^^^ W.tr w0) &&& s = 0
        · rw [if_pos (show nI ((W.tr k ^^^ W.tr w0) &&& s) = 0 by rw [q3]; rfl), mk_mo hW hrw hk hi, wq_bind, wq_some, ph_shl1 (by omega), ph_or, wq_some, fhK_l, filt_t (decide_eq_true q3), msk_s, if_pos q2]
        · rw [if_neg (show ¬ nI ((W.tr k ^^^ W.tr w0) &&& s) = 0 by rw [nI_eq0 (by omega)]; exact q3), wq_some, fhK_l, filt_f (decide_eq_false q3), List.append_nil]
      · rw [if_neg (fun z => q2 ((nI_eq (by omega) (by omega)).mp z)), wq_some, fhK_l]
        by_cases q3 : (W.tr k ^^^ W.tr w0) &&& s = 0
        · rw [filt_t (decide_eq_true q3), msk_s, if_neg q2]
        · rw [filt_f (decide_eq_false q3), List.append_nil]
    · rw [if_neg q, if_neg q, wq_some, fhK_l]
  · rintro x rfl
    (try dsimp only)
    unfold f_X12_knowsBy_5
    have := mlt W.N (Nat.le_refl _)
    rw [hrw.2.2.1, if_pos (nI_le (Nat.le_refl _) (by omega)), wq_some, fhK_r, m_isOne (by omega)]
    rfl
theorem m_try (hW : wOK W) {σ : fhM} (hrw : rwM' W σ) (hg : gmM W L w0 rd σ) (hw0 : w0 ∈ rl W.N L) (h38 : ∀ r, r < W.N → σ.1 38 r = nI (W.tr r)) {i : Nat} (hi : i < W.g) {o : Option Nat} (ho : ∀ j, o = some j → j < W.g) {k : Nat} (hk : k < 256) (v3 : Int32) : f_X12_fewest_36 (nI i) (oI o) v3 (nI k) σ = some (.inl (if wantF W (rl W.N L) w0 i o k = true then nI k else v3, nI (k + 1))) := by
  have hg5 := hW.1
  unfold f_X12_fewest_36 f_X12_fewest_61 f_X12_fewest_64
  rw [m_knowsBy hW hrw hg hw0 h38 hi, nI_1]
  by_cases q : kby W (rl W.N L) w0 i k = true
  · cases o with
    | none =>
      have w1 : wantF W (rl W.N L) w0 i none k = true := by
        unfold wantF
        rw [q]; rfl
      rw [w1, q, if_pos (rfl : true = true)]
      rfl
    | some j =>
      have hj := ho j rfl
      have c2 := m_knowsBy hW hrw hg hw0 h38 (s := k) hj
      have w1 : wantF W (rl W.N L) w0 i (some j) k = !kby W (rl W.N L) w0 j k := by
        unfold wantF
        rw [q]; exact Bool.true_and _
      rw [if_neg (show ¬ oI (some j) = (-1 : Int32) from ph_m1n (by omega)), show oI (some j) = nI j from rfl, c2, w1, q]
      cases kby W (rl W.N L) w0 j k <;> rfl
  · have qf : kby W (rl W.N L) w0 i k = false := by
      cases e : kby W (rl W.N L) w0 i k with
      | true => exact absurd e q
      | false => rfl
    have w1 : wantF W (rl W.N L) w0 i o k = false := by
      unfold wantF
      rw [qf]; exact Bool.false_and _
    rw [w1, qf]
    rfl
theorem m_fewest (hW : wOK W) {σ : fhM} (hrw : rwM' W σ) (hF : σ.1 29 8 = nI W.F) (hg : gmM W L w0 rd σ) (hw0 : w0 ∈ rl W.N L) (h38 : ∀ r, r < W.N → σ.1 38 r = nI (W.tr r)) {i : Nat} (hi : i < W.g) {o : Option Nat} (ho : ∀ j, o = some j → j < W.g) : f_X12_fewest (nI i) (oI o) σ = some (oI (fwst (wantF W (rl W.N L) w0 i o) (2 ^ W.F))) := by
  have h256 := pF hW
  have hg5 := hW.1
  have hF8 := hW.2.2.1
  refine wq_eq ?_
  unfold f_X12_fewest
  refine wq_for (R := fun k x => x = (oI (fwst (wantF W (rl W.N L) w0 i o) k), nI k)) 0 (2 ^ W.F) (Nat.zero_le _) ?_ ?_ rfl
  · rintro k x - hk rfl
    (try dsimp only)
    unfold f_X12_fewest_5 f_X12_factMany
    have c1 := m_try hW hrw hg hw0 h38 hi ho (show k < 256 by omega)
    rw [hF, ph_shl1 (by omega), if_neg (nI_ge hk (by omega)), fwst_s]
    cases hb : fwst (wantF W (rl W.N L) w0 i o) k with
    | none =>
      rw [if_pos (show oI none = (-1 : Int32) from rfl), c1, wq_some, fhK_l]
      rw [btr_n, Bool.true_and, if_oI]
    | some b =>
      have hbk := fwst_lt k b hb
      have p1 := pc_le b (by omega)
      have p2 := pc_le k (by omega)
      rw [if_neg (show ¬ oI (some b) = (-1 : Int32) from ph_m1n (by omega)), show oI (some b) = nI b from rfl, m_bits (by omega), m_bits (by omega), wq_bind, wq_some, wq_bind, wq_some]
      by_cases q : pc k < pc b
      · rw [if_pos (nI_lt q (by omega)), c1, wq_some, fhK_l, btr_t q, Bool.true_and, ← if_oI]
        rfl
      · rw [if_neg (nI_nlt (by omega) (by omega)), btr_f q, Bool.false_and, if_neg (by decide)]
        unfold f_X12_fewest_64
        rw [wq_some, fhK_l, nI_1]
        rfl
  · rintro x rfl
    (try dsimp only)
    unfold f_X12_fewest_5 f_X12_factMany
    rw [hF, ph_shl1 (by omega), if_pos (nI_le (Nat.le_refl _) (by omega)), wq_some, fhK_r]
end
