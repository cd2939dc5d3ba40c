/-! ANSWERS: arguments of any size; who should speak; who knows what another knows; a fact -/
theorem iI_ex (v : Int32) : v = iI v.toInt ∧ -2147483648 ≤ v.toInt ∧ v.toInt < 2147483648 := ⟨(Int32.ofInt_toInt v).symm, Int32.le_toInt v, Int32.toInt_lt v⟩
theorem m_inI (v : Int32) {lo hi : Int} (h1 : -2147483648 ≤ lo) (h2 : lo < 2147483648) (h3 : -2147483648 ≤ hi) (h4 : hi < 2147483648) (σ : fhM) : (f_X12_isIn v.toInt64 (lI lo) (lI hi) σ = true) = (lo ≤ v.toInt ∧ v.toInt ≤ hi) := by
  obtain ⟨e, a, b⟩ := iI_ex v
  have e2 : v.toInt64 = lI v.toInt := by
    have := iI_l a b
    rw [← e] at this
    exact this
  rw [e2]
  unfold f_X12_isIn
  by_cases q : v.toInt < lo
  · rw [if_pos ((lg_cmp_lt _ _).mpr (by rw [lI_ltP (by omega) (by omega) (by omega) (by omega)]; exact q))]
    exact propext ⟨fun z => (by cases z), fun z => absurd z.1 (by omega)⟩
  · rw [if_neg (fun z => q (by have := (lg_cmp_lt _ _).mp z; rw [lI_ltP (by omega) (by omega) (by omega) (by omega)] at this; exact this))]
    by_cases q2 : hi < v.toInt
    · rw [if_pos ((lg_cmp_gt _ _).mpr (by rw [lI_ltP (by omega) (by omega) (by omega) (by omega)]; exact q2))]
      exact propext ⟨fun z => (by cases z), fun z => absurd z.2 (by omega)⟩
    · rw [if_neg (fun z => q2 (by have := (lg_cmp_gt _ _).mp z; rw [lI_ltP (by omega) (by omega) (by omega) (by omega)] at this; exact this))]
      exact propext ⟨fun _ => ⟨by omega, by omega⟩, fun _ => rfl⟩
/-- a number below a bound -/
abbrev inB (v : Int32) (c : Nat) : Prop := 0 ≤ v.toInt ∧ v.toInt < c
theorem inB_ex {v : Int32} {c : Nat} (h : inB v c) : ∃ n, n < c ∧ v = nI n := by
  obtain ⟨e, a, b⟩ := iI_ex v
  obtain ⟨h1, h2⟩ := h
  refine ⟨v.toInt.toNat, by omega, ?_⟩
  rw [← iI_n (by omega), Int.toNat_of_nonneg h1]
  exact e
theorem inB_n {n c : Nat} (hn : n < 2 ^ 31) : inB (nI n) c = (n < c) := by
  unfold inB
  rw [nI_toInt hn]
  exact propext ⟨fun h => by omega, fun h => by omega⟩
theorem nI_pm1 (c : Nat) (hc : c < 2 ^ 31) : (nI c - (1 : Int32)).toInt64 = lI ((c : Int) - 1) := by
  rw [← iI_n hc, iI_1, iI_sub, iI_l (by omega) (by omega)]
theorem m_inB (v : Int32) {c : Nat} (hc : c < 2 ^ 31) (σ : fhM) : (f_X12_isIn v.toInt64 (0 : Int64) (Int32.toInt64 (nI c - (1 : Int32))) σ = true) = inB v c := by
  rw [nI_pm1 c hc, lI_0, m_inI v (by omega) (by omega) (by omega) (by omega)]
  unfold inB
  exact propext ⟨fun h => ⟨h.1, by omega⟩, fun h => ⟨h.1, by omega⟩⟩
theorem m_isG (v : Int32) {g : Nat} (hg : g < 2 ^ 31) {σ : fhM} (h : σ.1 29 6 = nI g) : (f_X12_isGuest v.toInt64 σ = true) = inB v g := by
  unfold f_X12_isGuest f_X12_guestMany
  rw [h]
  exact m_inB v hg σ
theorem lt0_P (v : Int32) : (v < 0) = (v.toInt < 0) := propext (by rw [Int32.lt_iff_toInt_lt]; rfl)
theorem le_nP (v : Int32) {c : Nat} (hc : c < 2 ^ 31) : (nI c ≤ v) = ((c : Int) ≤ v.toInt) := propext (by rw [Int32.le_iff_toInt_le, nI_toInt hc])
theorem lt_nP (v : Int32) {c : Nat} (hc : c < 2 ^ 31) : (v < nI c) = (v.toInt < (c : Int)) := propext (by rw [Int32.lt_iff_toInt_lt, nI_toInt hc])
theorem le_n2P (v : Int32) {c : Nat} (hc : c < 2 ^ 31) : (v ≤ nI c) = (v.toInt ≤ (c : Int)) := propext (by rw [Int32.le_iff_toInt_le, nI_toInt hc])
theorem c_in (v : Int32) {c : Nat} (hc : c < 2 ^ 31) : ((if v < 0 then false else if nI c ≤ v then false else true) = true) = inB v c := by
  unfold inB
  by_cases q : v.toInt < 0
  · rw [if_pos (by rw [lt0_P]; exact q)]
    exact propext ⟨fun z => (by cases z), fun z => absurd z.1 (by omega)⟩
  · rw [if_neg (by rw [lt0_P]; exact q)]
    by_cases q2 : (c : Int) ≤ v.toInt
    · rw [if_pos (by rw [le_nP v hc]; exact q2)]
      exact propext ⟨fun z => (by cases z), fun z => absurd z.2 (by omega)⟩
    · rw [if_neg (by rw [le_nP v hc]; exact q2)]
      exact propext ⟨fun _ => ⟨by omega, by omega⟩, fun _ => rfl⟩
theorem c_isG (v : Int32) {g : Nat} (hg : g < 2 ^ 31) {σ : fhM} (h : σ.1 39 9 = nI g) : (f_X11_isGuest v σ = true) = inB v g := by
  unfold f_X11_isGuest
  rw [h]
  exact c_in v hg
theorem c_isFt (v : Int32) {g : Nat} (hg : g < 2 ^ 31) {σ : fhM} (h : σ.1 39 10 = nI g) : (f_X11_isFact v σ = true) = inB v g := by
  unfold f_X11_isFact
  rw [h]
  exact c_in v hg
theorem m_isFt (v : Int32) {g : Nat} (hg : g < 2 ^ 31) {σ : fhM} (h : σ.1 29 8 = nI g) : (f_X12_isFact v σ = true) = inB v g := by
  unfold f_X12_isFact f_X12_factMany
  rw [h]
  exact m_inB v hg σ
theorem c_isPr (v w : Int32) {g : Nat} (hg : g < 2 ^ 31) {σ : fhM} (h : σ.1 39 9 = nI g) : (f_X11_isPair v w σ = true) = (inB v g ∧ inB w g ∧ v ≠ w) := by
  unfold f_X11_isPair
  by_cases q : inB v g
  · rw [if_pos (by rw [c_isG v hg h]; exact q)]
    by_cases q2 : inB w g
    · rw [if_pos (by rw [c_isG w hg h]; exact q2)]
      by_cases q3 : v = w
      · rw [if_pos q3]
        exact propext ⟨fun z => (by cases z), fun z => absurd q3 z.2.2⟩
      · rw [if_neg q3]
        exact propext ⟨fun _ => ⟨q, q2, q3⟩, fun _ => rfl⟩
    · rw [if_neg (by rw [c_isG w hg h]; exact q2)]
      exact propext ⟨fun z => (by cases z), fun z => absurd z.2.1 q2⟩
  · rw [if_neg (by rw [c_isG v hg h]; exact q)]
    exact propext ⟨fun z => (by cases z), fun z => absurd z.1 q⟩
/-! who should speak -/
def bst (f : Nat → Nat) : Nat → Option Nat
  | 0 => none
  | k + 1 => match bst f k with
    | none => some k
    | some b => if f k < f b then some k else some b
theorem bst_s (f : Nat → Nat) (k : Nat) : bst f (k + 1) = match bst f k with
    | none => some k
    | some b => if f k < f b then some k else some b := rfl
theorem bst_lt {f : Nat → Nat} : ∀ n b, bst f n = some b → b < n := by
  intro n
  induction n with
  | zero => intro b h; cases h
  | succ n ih =>
    intro b h
    rw [bst_s] at h
    cases e : bst f n with
    | none => rw [e] at h; cases h; exact Nat.lt_succ_self n
    | some c =>
      rw [e] at h
      have hc := ih c e
      by_cases q : f n < f c
      · rw [show (match some c with | none => some n | some b => if f n < f b then some n else some b) = if f n < f c then some n else some c from rfl, if_pos q] at h
        cases h; exact Nat.lt_succ_self n
      · rw [show (match some c with | none => some n | some b => if f n < f b then some n else some b) = if f n < f c then some n else some c from rfl, if_neg q] at h
        cases h; exact Nat.lt_succ_of_lt hc
def vO (d : Int32) (f : Nat → Nat) (o : Option Nat) : Int32 := match o with
  | none => d
  | some b => nI (f b)
theorem bit_and : ∀ a, a < 32 → ∀ b, b < 32 → ∀ i, i < 5 → (a / 2 ^ i % 2 = b / 2 ^ i % 2 ↔ a &&& 2 ^ i = b &&& 2 ^ i) := by decide +kernel
theorem nI_tb {a l : Nat} : nI (a / 2 ^ l % 2) = bI (a.testBit l) := by
  unfold bI
  rw [Nat.testBit_eq_decide_div_mod_eq]
  have := Nat.mod_lt (a / 2 ^ l) (show 0 < 2 by decide)
  by_cases q : a / 2 ^ l % 2 = 1
  · rw [decide_eq_true q, q, if_pos rfl]
  · rw [decide_eq_false q, show a / 2 ^ l % 2 = 0 by omega, if_neg (by decide)]
theorem cnP_le (P : Nat → Bool) : ∀ l : List Nat, cnP l P ≤ l.length := by
  have key : ∀ (l : List Nat) (n : Nat), l.foldl (fun n r => if P r = true then n + 1 else n) n ≤ n + l.length := by
    intro l
    induction l with
    | nil => intro n; exact Nat.le_refl _
    | cons x l ih =>
      intro n
      rw [List.foldl_cons, List.length_cons]
      refine Nat.le_trans (ih _) ?_
      by_cases q : P x = true
      · rw [if_pos q]; omega
      · rw [if_neg q]; omega
  intro l
  have := key l 0
  unfold cnP
  omega
section
variable {W : gW} {L : Nat → Bool} {w0 rd : Nat}
/-- how many rows stay, if guest i says whether they know -/
def sayN (W : gW) (l : List Nat) (w0 i : Nat) : Nat := cnP l (alk (kb W l) (2 ^ i) w0)
theorem c_best (hW : wOK W) {σ : fhM} (h9 : σ.1 39 9 = nI W.g) (hg : gmF W L w0 rd σ) (hw0 : 0 < W.g → w0 ∈ rl W.N L) : f_X4_bestSpeaker σ = some (oI (bst (sayN W (rl W.N L) w0) W.g)) := by
  have hg5 := hW.1
  have hN10 := hW.2.1
  have hll := rl_len W.N L
  refine wq_eq ?_
  unfold f_X4_bestSpeaker
  refine wq_for (R := fun k x => x = (oI (bst (sayN W (rl W.N L) w0) k), vO 0 (sayN W (rl W.N L) w0) (bst (sayN W (rl W.N L) w0) k), nI k)) 0 W.g (Nat.zero_le _) ?_ ?_ rfl
  · rintro k x - hk rfl
    (try dsimp only)
    unfold f_X4_bestSpeaker_6 f_X4_bestSpeaker_41 f_X4_bestSpeaker_46
    have hw := hw0 (by omega)
    have hp : 2 ^ k ≤ 2 ^ 5 := Nat.pow_le_pow_right (by decide) (by omega)
    have hcl : ∀ j, sayN W (rl W.N L) w0 j ≤ (rl W.N L).length := fun j => cnP_le _ _
    have e := c_countAlike (tb := 74) (mask := 2 ^ k) (T := kb W (rl W.N L)) hW hg hw rfl (fun r hr => hg.2.2.2.2 r hr) (by omega)
    rw [h9, if_neg (nI_ge hk (by omega)), ph_shl1 (by omega), e, wq_bind, wq_some, nI_1 k, bst_s]
    rw [show cnP (rl W.N L) (alk (kb W (rl W.N L)) (2 ^ k) w0) = sayN W (rl W.N L) w0 k from rfl]
    have hk1 := hcl k
    generalize sayN W (rl W.N L) w0 = f at hcl hk1 ⊢
    cases hb : bst f k with
    | none =>
      rw [if_pos (show oI none = (-1 : Int32) from rfl), wq_some, fhK_l]
      rfl
    | some b =>
      have hbk := bst_lt k b hb
      have hb1 := hcl b
      rw [if_neg (show ¬ oI (some b) = (-1 : Int32) from ph_m1n (by omega)), show vO 0 f (some b) = nI (f b) from rfl]
      dsimp only
      by_cases q : f k < f b
      · rw [if_neg (nI_ge q (by omega)), if_pos q, wq_some, fhK_l]
        rfl
      · rw [if_pos (nI_le (by omega) (by omega)), if_neg q, wq_some, fhK_l]
        rfl
  · rintro x rfl
    (try dsimp only)
    unfold f_X4_bestSpeaker_6
    rw [h9, if_pos (nI_le (Nat.le_refl _) (by omega)), wq_some, fhK_r]
/-- what is answered -/
def spkA (W : gW) (l : List Nat) (w0 : Nat) (v : Int32) : Int32 := if v = 0 then oI (bst (sayN W l w0) W.g) else if v = 1 then vO (-1) (sayN W l w0) (bst (sayN W l w0) W.g) else -1
theorem c_speaker (hW : wOK W) {σ : fhM} (h9 : σ.1 39 9 = nI W.g) (hg : gmF W L w0 rd σ) (hw0 : 0 < W.g → w0 ∈ rl W.N L) (v : Int32) : f_X11_speaker v σ = some (spkA W (rl W.N L) w0 v) := by
  have hg5 := hW.1
  refine wq_eq ?_
  unfold f_X11_speaker spkA
  rw [c_best hW h9 hg hw0, wq_bind, wq_some]
  cases hb : bst (sayN W (rl W.N L) w0) W.g with
  | none =>
    rw [if_pos (show oI none = (-1 : Int32) from rfl), wq_some]
    by_cases q : v = 0
    · rw [if_pos q]; rfl
    · rw [if_neg q]
      by_cases q1 : v = 1
      · rw [if_pos q1]; rfl
      · rw [if_neg q1]
  | some b =>
    have hbk := bst_lt _ b hb
    have hw := hw0 (by omega)
    have hp : 2 ^ b ≤ 2 ^ 5 := Nat.pow_le_pow_right (by decide) (by omega)
    have e := c_countAlike (tb := 74) (mask := 2 ^ b) (T := kb W (rl W.N L)) hW hg hw rfl (fun r hr => hg.2.2.2.2 r hr) (by omega)
    rw [if_neg (show ¬ oI (some b) = (-1 : Int32) from ph_m1n (by omega)), show oI (some b) = nI b from rfl, ph_shl1 (by omega), e]
    by_cases q : v = 0
    · rw [q, if_neg (by decide), if_pos (by decide), if_pos rfl, wq_some, if_pos rfl]
    · by_cases q1 : v = 1
      · rw [q1, if_neg (by decide), if_pos (by decide), if_neg (by decide), wq_bind, wq_some, wq_some, if_neg (by decide), if_pos rfl]
        rfl
      · rw [if_neg q, if_neg q, if_neg q1]
        obtain ⟨e, a, b⟩ := iI_ex v
        by_cases q2 : v.toInt < 0
        · rw [if_pos (by rw [lt0_P]; exact q2), wq_some]
        · rw [if_neg (by rw [lt0_P]; exact q2), if_neg, wq_some]
          intro z
          rw [show (1 : Int32) = nI 1 from rfl, le_n2P v (by decide)] at z
          have : v.toInt = 0 ∨ v.toInt = 1 := by omega
          rcases this with y | y
          · exact q (by rw [e, y]; decide)
          · exact q1 (by rw [e, y]; decide)
theorem m_leftIf (hW : wOK W) {σ : fhM} (h52 : σ.1 0 52 = nI W.N) (hL : lfM L σ) (h1 : σ.1 44 1 = nI w0) (ht : ∀ r, r < W.N → σ.1 46 r = nI (if L r = true then kb W (rl W.N L) r else 0)) (hw0 : w0 ∈ rl W.N L) {i : Nat} (hi : i < W.g) : f_X12_leftIfSays (nI i) σ = some (nI (sayN W (rl W.N L) w0 i)) := by
  have hg5 := hW.1
  have hN10 := hW.2.1
  have hwN := rl_lt _ hw0
  have hLw := (rl_mem.mp hw0).2
  have k0 := kb_lt hW (rl W.N L) w0
  refine wq_eq ?_
  unfold f_X12_leftIfSays
  refine wq_for (R := fun k x => x = (nI (cnP (rl k L) (alk (kb W (rl W.N L)) (2 ^ i) w0)), nI k)) 0 W.N (Nat.zero_le _) ?_ ?_ rfl
  · rintro k x - hk rfl
    (try dsimp only)
    unfold f_X12_leftIfSays_4 f_X12_leftIfSays_51
    have k1 := kb_lt hW (rl W.N L) k
    rw [h52, if_neg (nI_ge hk (by omega)), m_isLeft hL (by omega), wq_bind, wq_some, nI_1 k, rl_s]
    by_cases q : L k = true
    · have m1 := Nat.mod_lt (kb W (rl W.N L) k / 2 ^ i) (show 0 < 2 by decide)
      have m2 := Nat.mod_lt (kb W (rl W.N L) w0 / 2 ^ i) (show 0 < 2 by decide)
      rw [if_pos q, if_pos q, h1, ph_in (by omega), ph_in (by omega), decide_eq_true (show k < 1024 by omega), decide_eq_true (show w0 < 1024 by omega), if_pos (show (true && (true && true)) = true from rfl), ph_ix (by omega), ph_ix (by omega), ht k hk, ht w0 hwN, if_pos q, if_pos hLw, ph_bit (by omega) (by omega), ph_bit (by omega) (by omega), wq_some, fhK_l, cnP_s, nI_1]
      by_cases q2 : kb W (rl W.N L) k &&& 2 ^ i = kb W (rl W.N L) w0 &&& 2 ^ i
      · rw [if_pos (by rw [(bit_and _ k1 _ k0 i (by omega)).mpr q2]), if_pos (show alk _ _ w0 k = true from decide_eq_true q2)]
      · rw [if_neg (fun z => q2 ((bit_and _ k1 _ k0 i (by omega)).mp ((nI_eq (by omega) (by omega)).mp z))), if_neg (show ¬ alk _ _ w0 k = true from fun z => q2 (of_decide_eq_true z))]
    · rw [if_neg q, if_neg q, wq_some, fhK_l]
  · rintro x rfl
    (try dsimp only)
    unfold f_X12_leftIfSays_4
    rw [h52, if_pos (nI_le (Nat.le_refl _) (by omega)), wq_some, fhK_r]
    rfl
theorem m_speaker (hW : wOK W) {σ : fhM} (hrw : rwM' W σ) (hg : gmM W L w0 rd σ) (hw0 : 0 < W.g → w0 ∈ rl W.N L) (v : Int32) : wq (f_X12_speaker v σ) (fun r => r.1 = spkA W (rl W.N L) w0 v ∧ (r.2 = σ ∨ ∃ t u, r.2 = fhU (fhU σ 46 t) 42 u)) := by
  have hg5 := hW.1
  have hN10 := hW.2.1
  have hll := rl_len W.N L
  unfold f_X12_speaker spkA
  rw [lI_0, lI_1]
  by_cases q : (0 : Int) ≤ v.toInt ∧ v.toInt ≤ 1
  · rw [if_pos (by rw [m_inI v (by omega) (by omega) (by omega) (by omega)]; exact q), wq_bind]
    refine wq_mono (m_laysKnowing hW hrw hg.1) (fun s z => ?_)
    obtain ⟨t, u, rfl, ht⟩ := z
    have hv : v = 0 ∨ v = 1 := by
      obtain ⟨e, a, b⟩ := iI_ex v
      have : v.toInt = 0 ∨ v.toInt = 1 := by omega
      rcases this with y | y
      · exact Or.inl (by rw [e, y]; decide)
      · exact Or.inr (by rw [e, y]; decide)
    have hL2 : lfM L (fhU (fhU σ 46 t) 42 u) := lfM_U (lfM_U hg.1 (by decide)) (by decide)
    refine wq_for (R := fun k x => x = (oI (bst (sayN W (rl W.N L) w0) k), vO (-1) (sayN W (rl W.N L) w0) (bst (sayN W (rl W.N L) w0) k), nI k)) 0 W.g (Nat.zero_le _) ?_ ?_ rfl
    · rintro k x - hk rfl
      (try dsimp only)
      unfold f_X12_speaker_23 f_X12_speaker_54 f_X12_speaker_60 f_X12_guestMany
      have hw := hw0 (by omega)
      have hcl : ∀ j, sayN W (rl W.N L) w0 j ≤ (rl W.N L).length := fun j => cnP_le _ _
      have e := m_leftIf hW (σ := fhU (fhU σ 46 t) 42 u) (by rw [fhU_o (by decide), fhU_o (by decide)]; exact hrw.2.2.1) hL2 (by rw [fhU_o (by decide), fhU_o (by decide)]; exact hg.2.1) (fun r hr => by rw [fhU_o (by decide), fhU_e]; exact ht r hr) hw hk
      rw [fhU_o (by decide), fhU_o (by decide), hrw.2.1, if_neg (nI_ge hk (by omega)), e, wq_bind, wq_some, nI_1 k, bst_s]
      have hk1 := hcl k
      generalize sayN W (rl W.N L) w0 = f at hcl hk1 ⊢
      cases hb : bst f k with
      | none =>
        rw [if_pos (show oI none = (-1 : Int32) from rfl), wq_some, fhK_l]
        rfl
      | some b =>
        have hbk := bst_lt k b hb
        have hb1 := hcl b
        rw [if_neg (show ¬ oI (some b) = (-1 : Int32) from ph_m1n (by omega)), show vO (-1) f (some b) = nI (f b) from rfl]
        dsimp only
        by_cases q : f k < f b
        · rw [if_pos (nI_lt q (by omega)), if_pos q, wq_some, fhK_l]
          rfl
        · rw [if_neg (nI_nlt (by omega) (by omega)), if_neg q, wq_some, fhK_l]
          rfl
    · rintro x rfl
      (try dsimp only)
      unfold f_X12_speaker_23 f_X12_guestMany
      rw [fhU_o (by decide), fhU_o (by decide), hrw.2.1, if_pos (nI_le (Nat.le_refl _) (by omega))]
      rcases hv with hv | hv
      · rw [if_pos hv, if_pos hv, wq_some, fhK_r]
        exact ⟨rfl, Or.inr ⟨t, u, rfl⟩⟩
      · rw [hv, if_neg (by decide), if_neg (by decide), if_pos rfl, wq_some, fhK_r]
        exact ⟨rfl, Or.inr ⟨t, u, rfl⟩⟩
  · rw [if_neg (by rw [m_inI v (by omega) (by omega) (by omega) (by omega)]; exact q), wq_some, if_neg (fun z => q (by rw [z]; decide)), if_neg (fun z => q (by rw [z]; decide))]
    exact ⟨rfl, Or.inl rfl⟩
end
