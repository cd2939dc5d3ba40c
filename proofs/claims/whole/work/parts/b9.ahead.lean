/-! ROUNDS AHEAD: mathematics, and the reference -/
theorem msk_bit (W : gW) (i v : Nat) : ∀ (l : List Nat) (b : Nat), (msk W l i v).testBit b = true ↔ ∃ r ∈ l, W.vw r i = v ∧ W.mk r i = b := by
  have key : ∀ (l : List Nat) (a b : Nat), (l.foldl (fun b r => if W.vw r i = v then b ||| 2 ^ W.mk r i else b) a).testBit b = true ↔ a.testBit b = true ∨ ∃ r ∈ l, W.vw r i = v ∧ W.mk r i = b := by
    intro l
    induction l with
    | nil => intro a b; exact ⟨fun h => Or.inl h, fun h => h.elim id (fun ⟨r, hr, _⟩ => by cases hr)⟩
    | cons x r ih =>
      intro a b
      show (r.foldl _ (if W.vw x i = v then a ||| 2 ^ W.mk x i else a)).testBit b = true ↔ _
      rw [ih]
      by_cases q : W.vw x i = v
      · rw [if_pos q, Nat.testBit_or, Bool.or_eq_true, Nat.testBit_two_pow, decide_eq_true_iff]
        constructor
        · rintro ((h | h) | ⟨y, h1, h2⟩)
          · exact Or.inl h
          · exact Or.inr ⟨x, List.mem_cons_self, q, h⟩
          · exact Or.inr ⟨y, List.mem_cons_of_mem _ h1, h2⟩
        · rintro (h | ⟨y, h1, h2, h3⟩)
          · exact Or.inl (Or.inl h)
          · rcases List.mem_cons.mp h1 with rfl | h1
            · exact Or.inl (Or.inr h3)
            · exact Or.inr ⟨y, h1, h2, h3⟩
      · rw [if_neg q]
        constructor
        · rintro (h | ⟨y, h1, h2⟩)
          · exact Or.inl h
          · exact Or.inr ⟨y, List.mem_cons_of_mem _ h1, h2⟩
        · rintro (h | ⟨y, h1, h2, h3⟩)
          · exact Or.inl h
          · rcases List.mem_cons.mp h1 with rfl | h1
            · exact absurd h2 q
            · exact Or.inr ⟨y, h1, h2, h3⟩
  intro l b
  have := key l 0 b
  rw [Nat.zero_testBit] at this
  unfold msk
  rw [this]
  exact ⟨fun h => h.elim (fun z => by cases z) id, Or.inr⟩
theorem one_bits : ∀ x, x < 16 → ∀ b, b < 4 → x.testBit b = true → (one x = true ↔ ∀ c, c < 4 → x.testBit c = true → c = b) := by decide +kernel
theorem one_iff {W : gW} {l : List Nat} {i w0 : Nat} (hl : ∀ r ∈ l, W.mk r i < 4) (hw : w0 ∈ l) : one (msk W l i (W.vw w0 i)) = true ↔ ∀ r ∈ l, W.vw r i = W.vw w0 i → W.mk r i = W.mk w0 i := by
  rw [one_bits _ (msk_lt hl) (W.mk w0 i) (hl w0 hw) ((msk_bit W i _ l _).mpr ⟨w0, hw, rfl, rfl⟩)]
  constructor
  · intro h r hr hv
    exact h _ (hl r hr) ((msk_bit W i _ l _).mpr ⟨r, hr, hv, rfl⟩)
  · intro h c _ hc
    obtain ⟨r, hr, hv, hm⟩ := (msk_bit W i _ l _).mp hc
    rw [← hm]
    exact h r hr hv
theorem one_mono {W : gW} {l l2 : List Nat} {i w0 : Nat} (hl : ∀ r ∈ l, W.mk r i < 4) (hs : ∀ r ∈ l2, r ∈ l) (hw : w0 ∈ l2) (h : one (msk W l i (W.vw w0 i)) = true) : one (msk W l2 i (W.vw w0 i)) = true := by
  rw [one_iff (fun r hr => hl r (hs r hr)) hw]
  rw [one_iff hl (hs w0 hw)] at h
  exact fun r hr hv => h r (hs r hr) hv
/-- the rounds from now on -/
def nxt (W : gW) (w0 : Nat) (L : Nat → Bool) : Nat → Bool := kpt (alk (kb W (rl W.N L)) 31 w0) L
def itr (W : gW) (w0 : Nat) (L : Nat → Bool) : Nat → Nat → Bool
  | 0 => L
  | n + 1 => nxt W w0 (itr W w0 L n)
theorem nxt_sub {W : gW} {w0 : Nat} {L : Nat → Bool} {r : Nat} (h : r ∈ rl W.N (nxt W w0 L)) : r ∈ rl W.N L := by
  rw [rl_mem] at h ⊢
  refine ⟨h.1, ?_⟩
  have h2 := h.2
  unfold nxt kpt at h2
  rw [Bool.and_eq_true] at h2
  exact h2.2
theorem nxt_w {W : gW} {w0 : Nat} {L : Nat → Bool} (h : w0 ∈ rl W.N L) : w0 ∈ rl W.N (nxt W w0 L) := by
  rw [rl_mem] at h ⊢
  refine ⟨h.1, ?_⟩
  unfold nxt kpt alk
  rw [decide_eq_true rfl, h.2]
  rfl
theorem itr_w {W : gW} {w0 : Nat} {L : Nat → Bool} (h : w0 ∈ rl W.N L) : ∀ n, w0 ∈ rl W.N (itr W w0 L n) := by
  intro n
  induction n with
  | zero => exact h
  | succ n ih => exact nxt_w ih
theorem itr_in {W : gW} {w0 : Nat} {L : Nat → Bool} (h : lin W L) : ∀ n, lin W (itr W w0 L n) := by
  intro n
  induction n with
  | zero => exact h
  | succ n ih => exact lin_k ih
/-- whether a guest knows behind n rounds -/
def rdK (W : gW) (w0 : Nat) (L : Nat → Bool) (i n : Nat) : Bool := one (msk W (rl W.N (itr W w0 L n)) i (W.vw w0 i))
theorem rl_mk {W : gW} (hW : wOK W) (L : Nat → Bool) (i : Nat) : ∀ r ∈ rl W.N L, W.mk r i < 4 := fun r hr => hW.2.2.2.2.1 r i (rl_lt r hr)
theorem rdK_s {W : gW} (hW : wOK W) {w0 : Nat} {L : Nat → Bool} (h : w0 ∈ rl W.N L) {i n : Nat} (hk : rdK W w0 L i n = true) : rdK W w0 L i (n + 1) = true := one_mono (rl_mk hW _ i) (fun r hr => nxt_sub hr) (itr_w h (n + 1)) hk
theorem rdK_m {W : gW} (hW : wOK W) {w0 : Nat} {L : Nat → Bool} (h : w0 ∈ rl W.N L) {i n : Nat} (hk : rdK W w0 L i n = true) : ∀ k, rdK W w0 L i (n + k) = true := by
  intro k
  induction k with
  | zero => exact hk
  | succ k ih => exact rdK_s hW h ih
/-- how many are left behind n rounds -/
def rdL (W : gW) (w0 : Nat) (L : Nat → Bool) (n : Nat) : Nat := (rl W.N (itr W w0 L n)).length
theorem rl_eq_of_len {n : Nat} {P L : Nat → Bool} (h : (rl n (kpt P L)).length = (rl n L).length) : rl n (kpt P L) = rl n L := by
  rw [← kpt_f] at h ⊢
  exact List.filter_eq_self.mpr (List.length_filter_eq_length_iff.mp h)
theorem rest_stays {W : gW} {w0 : Nat} {L : Nat → Bool} {n : Nat} (h : rdL W w0 L (n + 1) = rdL W w0 L n) : ∀ k, rl W.N (itr W w0 L (n + k)) = rl W.N (itr W w0 L n) := by
  have h0 : rl W.N (itr W w0 L (n + 1)) = rl W.N (itr W w0 L n) := rl_eq_of_len h
  have cg : ∀ L1 L2 : Nat → Bool, rl W.N L1 = rl W.N L2 → rl W.N (nxt W w0 L1) = rl W.N (nxt W w0 L2) := by
    intro L1 L2 e
    unfold nxt
    rw [← kpt_f, ← kpt_f, e]
  intro k
  induction k with
  | zero => rfl
  | succ k ih =>
    have := cg _ _ ih
    exact this.trans h0
theorem rdK_rest {W : gW} {w0 : Nat} {L : Nat → Bool} {n : Nat} (h : rdL W w0 L (n + 1) = rdL W w0 L n) (i k : Nat) : rdK W w0 L i (n + k) = rdK W w0 L i n := by
  unfold rdK
  rw [rest_stays h k]
/-! the reference ahead -/
def xD (t j : Nat) : Prop := t = 42 ∨ t = 46 ∨ t = 47 ∨ t = 48 ∨ (t = 44 ∧ j < 1026)
theorem rwM'_f {W : gW} {σ s : fhM} {D : Nat → Nat → Prop} (h : rwM' W σ) (hf : frl D σ s) (h1 : ∀ j, ¬ D 29 j) (h2 : ¬ D 0 52) (h3 : ∀ j, ¬ D 39 j) : rwM' W s := ⟨by rw [(hf.1 _ _ (h1 _)).1]; exact h.1, by rw [(hf.1 _ _ (h1 _)).1]; exact h.2.1, by rw [(hf.1 _ _ h2).1]; exact h.2.2.1, fun r i a b => by rw [(hf.1 _ _ (h3 _)).1]; exact h.2.2.2 r i a b⟩
section
variable {W : gW} {L : Nat → Bool} {w0 rd : Nat}
theorem m_doesKnow (hW : wOK W) {σ : fhM} (hrw : rwM' W σ) (hg : gmM W L w0 rd σ) (hw0 : w0 ∈ rl W.N L) {i : Nat} (hi : i < W.g) : wq (f_X12_doesKnow (nI i) σ) (fun r => r.1 = one (msk W (rl W.N L) i (W.vw w0 i)) ∧ r.2 = fhI (fhI σ 47 i (nI (cnv W (rl W.N L) i (W.vw w0 i)))) 48 i (nI (msk W (rl W.N L) i (W.vw w0 i)))) := by
  have hg5 := hW.1
  have hm : msk W (rl W.N L) i (W.vw w0 i) < 16 := msk_lt (rl_mk hW L i)
  unfold f_X12_doesKnow
  rw [wq_bind]
  refine wq_mono (m_laysOwn hW hrw hg.1 hg.2.1 (rl_lt _ hw0) hi) (fun s z => ?_)
  subst z
  rw [if_pos (ph_in1 (by omega) (by omega)), ph_ix (by omega), fhI_e, m_isOne (by omega), wq_some]
  exact ⟨rfl, rfl⟩
theorem gmM_own {σ : fhM} (hg : gmM W L w0 rd σ) {i : Nat} {a b : Int32} : gmM W L w0 rd (fhI (fhI σ 47 i a) 48 i b) := ⟨lfM_I (lfM_I hg.1 (by decide)) (by decide), by rw [fhI_o (by decide), fhI_o (by decide)]; exact hg.2.1, by rw [fhI_o (by decide), fhI_o (by decide)]; exact hg.2.2⟩
theorem frl_own {D : Nat → Nat → Prop} {σ σ' : fhM} (h : frl D σ σ') (h1 : ∀ j, D 47 j) (h2 : ∀ j, D 48 j) {i : Nat} {a b : Int32} : frl D σ (fhI (fhI σ' 47 i a) 48 i b) := frl_I (frl_I h (h1 i)) (h2 i)
theorem m_roundT (hW : wOK W) {σ : fhM} (hrw : rwM' W σ) (hg : gmM W L w0 rd σ) (hi : lin W L) (hw0 : w0 ∈ rl W.N L) (h62 : σ.1 0 62 = 1) (hrd : rd < 5000) : wq (f_X12_roundGoes (31 : Int32) σ) (fun r => gmM W (nxt W w0 L) w0 (rd + 1) r.2 ∧ fr xD σ r.2) := by
  unfold f_X12_roundGoes
  rw [show (31 : Int32) = nI 31 from rfl, wq_bind]
  refine wq_mono (m_leavesAs hW hrw hg hi hw0 (mk := 31) (by decide)) (fun r z => ?_)
  obtain ⟨r1, r2⟩ := r
  obtain ⟨z1, t, u, n, rfl, z2, z3⟩ := z
  have e62 : (fhI (fhU (fhU (fhU σ 46 t) 42 u) 44 n) 44 0 ((fhU (fhU (fhU σ 46 t) 42 u) 44 n).1 44 0 + (1 : Int32))).1 0 62 = 1 := by
    rw [fhI_o (by decide), fhU_o (by decide), fhU_o (by decide), fhU_o (by decide)]; exact h62
  dsimp only
  rw [m_keptT e62, wq_bind, wq_some, wq_some]
  refine ⟨⟨fun r hr => ?_, ?_, ?_⟩, ?_⟩
  · rw [fhI_s (by omega), fhU_e]; exact z2 r hr
  · rw [fhI_s (by decide), fhU_e, z3 _ (by omega)]; exact hg.2.1
  · rw [fhI_e, fhU_e, z3 _ (by omega), hg.2.2, nI_1]
  · refine fr_I ?_ (by unfold xD; omega)
    refine ⟨rfl, fun a j hn => ?_⟩
    by_cases q : a = 44
    · subst q
      rw [fhU_e, z3 _ (by unfold xD at hn; omega)]
    · rw [fhU_o q, fhU_o (by unfold xD at hn; omega), fhU_o (by unfold xD at hn; omega)]
def yD (t _j : Nat) : Prop := t = 42 ∨ t = 45 ∨ t = 46 ∨ t = 47 ∨ t = 48
/-- put aside, and taken back -/
theorem m_aside {σ : fhM} : wq (f_X12_putsAside σ) (fun s => ∃ g, s = fhU (fhI σ 0 62 (1 : Int32)) 45 g ∧ ∀ j, j < 1026 → g j = σ.1 44 j) := by
  unfold f_X12_putsAside
  refine wq_for (R := fun k x => ∃ g, x = (nI k, fhU (fhI σ 0 62 (1 : Int32)) 45 g) ∧ ∀ j, j < k → g j = σ.1 44 j) 0 1026 (Nat.zero_le _) ?_ ?_ ⟨(fhI σ 0 62 (1 : Int32)).1 45, by rw [fhU_id (fun _ => rfl)]; rfl, fun j hj => absurd hj (Nat.not_lt_zero _)⟩
  · rintro k x - hk ⟨g, rfl, hg⟩
    (try dsimp only)
    unfold f_X12_putsAside_7
    rw [if_neg (show ¬ (1026 : Int32) ≤ nI k from nI_ge (b := 1026) hk (by decide)), ph_in (by omega), ph_in (by omega), decide_eq_true (show k < 1187 by omega), decide_eq_true hk, if_pos (show (true && (true && true)) = true from rfl), ph_ix (by omega), fhU_I, fhU_o (by decide), fhI_o (by decide), nI_1, wq_some, fhK_l]
    refine ⟨_, rfl, fun j hj => ?_⟩
    (try dsimp only)
    by_cases q : j = k
    · rw [if_pos q, q]
    · rw [if_neg q]; exact hg j (by omega)
  · rintro x ⟨g, rfl, hg⟩
    (try dsimp only)
    unfold f_X12_putsAside_7
    rw [if_pos (show (1026 : Int32) ≤ nI 1026 by decide), wq_some, fhK_r]
    exact ⟨g, rfl, hg⟩
theorem m_back {σ : fhM} : wq (f_X12_takesBack σ) (fun s => ∃ g, s = fhI (fhU σ 44 g) 0 62 (0 : Int32) ∧ (∀ j, j < 1026 → g j = σ.1 45 j) ∧ ∀ j, 1026 ≤ j → g j = σ.1 44 j) := by
  unfold f_X12_takesBack f_X12_triesAnew
  rw [wq_bind]
  refine wq_for (R := fun k x => ∃ g, x = (nI k, fhU σ 44 g) ∧ (∀ j, j < k → g j = σ.1 45 j) ∧ ∀ j, k ≤ j → g j = σ.1 44 j) 0 1026 (Nat.zero_le _) ?_ ?_ ⟨σ.1 44, by rw [fhU_id (fun _ => rfl)]; rfl, fun j hj => absurd hj (Nat.not_lt_zero _), fun j _ => rfl⟩
  · rintro k x - hk ⟨g, rfl, hg, hg2⟩
    (try dsimp only)
    unfold f_X12_triesAnew_2
    rw [if_neg (show ¬ (1026 : Int32) ≤ nI k from nI_ge (b := 1026) hk (by decide)), ph_in (by omega), ph_in (by omega), decide_eq_true hk, decide_eq_true (show k < 1187 by omega), if_pos (show (true && (true && true)) = true from rfl), ph_ix (by omega), fhU_I, fhU_o (by decide), nI_1, wq_some, fhK_l]
    refine ⟨_, rfl, fun j hj => ?_, fun j hj => ?_⟩
    · (try dsimp only)
      by_cases q : j = k
      · rw [if_pos q, q]
      · rw [if_neg q]; exact hg j (by omega)
    · (try dsimp only)
      rw [if_neg (by omega)]; exact hg2 j (by omega)
  · rintro x ⟨g, rfl, hg, hg2⟩
    (try dsimp only)
    unfold f_X12_triesAnew_2
    rw [if_pos (show (1026 : Int32) ≤ nI 1026 by decide), wq_some, fhK_r, wq_some]
    exact ⟨g, rfl, hg, hg2⟩
/-- what lies between -/
def asd (σ s : fhM) : Prop := fr (fun t j => xD t j ∨ t = 45 ∨ (t = 0 ∧ j = 62)) σ s ∧ ∀ j, j < 1026 → s.1 45 j = σ.1 44 j
theorem asd_back {σ s : fhM} (h : asd σ s) (h62 : σ.1 0 62 = 0) : wq (f_X12_takesBack s) (fun s2 => fr yD σ s2) := by
  refine wq_mono m_back (fun s2 z => ?_)
  obtain ⟨g, rfl, g1, g2⟩ := z
  refine ⟨h.1.1, fun t j hn => ?_⟩
  have hn2 : t ≠ 42 ∧ t ≠ 45 ∧ t ≠ 46 ∧ t ≠ 47 ∧ t ≠ 48 := by unfold yD at hn; omega
  by_cases q0 : t = 0 ∧ j = 62
  · rw [q0.1, q0.2, fhI_e]
    exact h62.symm
  · rw [fhI_r, if_neg q0]
    by_cases q : t = 44
    · subst q
      rw [fhU_e]
      rcases Nat.lt_or_ge j 1026 with hj | hj
      · rw [g1 j hj, h.2 j hj]
      · rw [g2 j hj]
        exact h.1.2 44 j (by unfold xD; omega)
    · rw [fhU_o q]
      exact h.1.2 t j (by unfold xD; omega)
/-- a state ahead: n rounds behind σ -/
def ahS (W : gW) (L : Nat → Bool) (w0 rd : Nat) (σ : fhM) (n : Nat) (s : fhM) : Prop := asd σ s ∧ rwM' W s ∧ gmM W (itr W w0 L n) w0 (rd + n) s ∧ s.1 0 62 = 1
theorem ahS_0 {σ : fhM} (hrw : rwM' W σ) (hg : gmM W L w0 rd σ) : wq (f_X12_putsAside σ) (fun s => ahS W L w0 rd σ 0 s) := by
  refine wq_mono m_aside (fun s z => ?_)
  obtain ⟨g, rfl, hg2⟩ := z
  have f : fr (fun t j => xD t j ∨ t = 45 ∨ (t = 0 ∧ j = 62)) σ (fhU (fhI σ 0 62 (1 : Int32)) 45 g) := by
    refine ⟨rfl, fun t j hn => ?_⟩
    rw [fhU_o (by omega), fhI_r, if_neg (by omega)]
  refine ⟨⟨f, fun j hj => by rw [fhU_e]; exact hg2 j hj⟩, rwM'_f hrw (frl_r f (fun _ _ h => h)) (fun j => by unfold xD; omega) (by unfold xD; omega) (fun j => by unfold xD; omega), ⟨fun r hr => ?_, ?_, ?_⟩, ?_⟩
  · rw [fhU_o (by decide), fhI_o (by decide)]; exact hg.1 r hr
  · rw [fhU_o (by decide), fhI_o (by decide)]; exact hg.2.1
  · rw [fhU_o (by decide), fhI_o (by decide)]; exact hg.2.2
  · rw [fhU_o (by decide), fhI_e]
theorem asd_f {σ s s2 : fhM} {D : Nat → Nat → Prop} (h : asd σ s) (hf : fr D s s2) (hd : ∀ t j, D t j → xD t j) : asd σ s2 := ⟨fr_tr h.1 (fr_mo hf (fun t j z => Or.inl (hd t j z))), fun j hj => by
  rw [hf.2 45 j (fun z => by have := hd _ _ z; unfold xD at this; omega)]
  exact h.2 j hj⟩
theorem ahS_s (hW : wOK W) {σ s : fhM} {n : Nat} (h : ahS W L w0 rd σ n s) (hi : lin W L) (hw0 : w0 ∈ rl W.N L) (hn : n ≤ 100) (hrd : rd ≤ 1000) : wq (f_X12_roundGoes (31 : Int32) s) (fun r => ahS W L w0 rd σ (n + 1) r.2) := by
  obtain ⟨h1, h2, h3, h4⟩ := h
  refine wq_mono (m_roundT hW h2 h3 (itr_in hi n) (itr_w hw0 n) h4 (by omega)) (fun r z => ?_)
  obtain ⟨z1, z2⟩ := z
  exact ⟨asd_f h1 z2 (fun _ _ y => y), rwM'_f h2 (frl_r z2 (fun _ _ y => y)) (fun j => by unfold xD; omega) (by unfold xD; omega) (fun j => by unfold xD; omega), z1, by rw [z2.2 0 62 (by unfold xD; omega)]; exact h4⟩
theorem ahS_k (hW : wOK W) {σ s : fhM} {n : Nat} (h : ahS W L w0 rd σ n s) (hw0 : w0 ∈ rl W.N L) {i : Nat} (hi : i < W.g) : wq (f_X12_doesKnow (nI i) s) (fun r => r.1 = rdK W w0 L i n ∧ ahS W L w0 rd σ n r.2) := by
  obtain ⟨h1, h2, h3, h4⟩ := h
  refine wq_mono (m_doesKnow hW h2 h3 (itr_w hw0 n) hi) (fun r z => ?_)
  obtain ⟨z1, z2⟩ := z
  rw [z2]
  have f : fr xD s (fhI (fhI s 47 i (nI (cnv W (rl W.N (itr W w0 L n)) i (W.vw w0 i)))) 48 i (nI (msk W (rl W.N (itr W w0 L n)) i (W.vw w0 i)))) := fr_I (fr_I fr_rf (by unfold xD; omega)) (by unfold xD; omega)
  exact ⟨z1, asd_f h1 f (fun _ _ y => y), rwM'_f h2 (frl_r f (fun _ _ y => y)) (fun j => by unfold xD; omega) (by unfold xD; omega) (fun j => by unfold xD; omega), gmM_own h3, by rw [f.2 0 62 (by unfold xD; omega)]; exact h4⟩
theorem m_laterL (hW : wOK W) {σ : fhM} (hrw : rwM' W σ) (hg : gmM W L w0 rd σ) (hi : lin W L) (hw0 : w0 ∈ rl W.N L) (h62 : σ.1 0 62 = 0) (hrd : rd ≤ 1000) {i n : Nat} (hg2 : i < W.g) (hn : n ≤ 20) :
    wq (Option.bind (f_X12_putsAside σ) fun q1 => fhlp (fun x => f_X12_later_29 (nI i) (nI n) x.1 x.2) ((0 : Int32), q1)) (fun r => r.1 = (if rdK W w0 L i n = true then 1 else 0) ∧ fr yD σ r.2) := by
  rw [wq_bind]
  refine wq_mono (ahS_0 hrw hg) (fun s0 z0 => ?_)
  refine wq_for (R := fun k x => ∃ s, x = (nI k, s) ∧ ahS W L w0 rd σ k s) 0 n (Nat.zero_le _) ?_ ?_ ⟨s0, rfl, z0⟩
  · rintro k x - hk ⟨s, rfl, hs⟩
    (try dsimp only)
    unfold f_X12_later_29
    rw [if_neg (nI_ge hk (by omega)), wq_bind]
    refine wq_mono (ahS_s hW hs hi hw0 (by omega) hrd) (fun r z => ?_)
    rw [wq_some, fhK_l, nI_1]
    exact ⟨_, rfl, z⟩
  · rintro x ⟨s, rfl, hs⟩
    (try dsimp only)
    unfold f_X12_later_29
    rw [if_pos (nI_le (Nat.le_refl _) (by omega)), wq_bind]
    refine wq_mono (ahS_k hW hs hw0 hg2) (fun r z => ?_)
    obtain ⟨z1, z2⟩ := z
    rw [wq_bind]
    refine wq_mono (asd_back z2.1 h62) (fun s2 z3 => ?_)
    rw [z1]
    by_cases q : rdK W w0 L i n = true
    · rw [if_pos q, if_pos q, wq_some, fhK_r]; exact ⟨rfl, z3⟩
    · rw [if_neg q, if_neg q, wq_some, fhK_r]; exact ⟨rfl, z3⟩
/-- the first round at which, up to 20 -/
def fst20 (P : Nat → Prop) (v : Int32) : Prop := (∃ n, n ≤ 20 ∧ P n ∧ (∀ j, j < n → ¬ P j) ∧ v = nI n) ∨ ((∀ j, j ≤ 20 → ¬ P j) ∧ v = -1)
theorem fst20_u {P : Nat → Prop} {v w : Int32} (h1 : fst20 P v) (h2 : fst20 P w) : v = w := by
  rcases h1 with ⟨n, a1, a2, a3, a4⟩ | ⟨a1, a2⟩ <;> rcases h2 with ⟨m, b1, b2, b3, b4⟩ | ⟨b1, b2⟩
  · have : n = m := by
      rcases Nat.lt_trichotomy n m with q | q | q
      · exact absurd a2 (b3 n q)
      · exact q
      · exact absurd b2 (a3 m q)
    rw [a4, b4, this]
  · exact absurd a2 (b1 n a1)
  · exact absurd b2 (a1 m b1)
  · rw [a2, b2]
theorem m_learnsL (hW : wOK W) {σ : fhM} (hrw : rwM' W σ) (hg : gmM W L w0 rd σ) (hi : lin W L) (hw0 : w0 ∈ rl W.N L) (h62 : σ.1 0 62 = 0) (hrd : rd ≤ 1000) {i : Nat} (hg2 : i < W.g) :
    wq (Option.bind (f_X12_putsAside σ) fun q1 => Option.bind (f_X12_doesKnow (nI i) q1) fun q2 => fhlp (fun x => f_X12_learns_23 (nI i) x.1 x.2.1 x.2.2) ((0 : Int32), (fhb q2.1), q2.2)) (fun r => fst20 (fun n => rdK W w0 L i n = true) r.1 ∧ fr yD σ r.2) := by
  rw [wq_bind]
  refine wq_mono (ahS_0 hrw hg) (fun s0 z0 => ?_)
  rw [wq_bind]
  refine wq_mono (ahS_k hW z0 hw0 hg2) (fun r z1 => ?_)
  obtain ⟨z1, z2⟩ := z1
  rw [z1]
  refine wq_loop (Inv := fun x => ∃ n s, x = (nI n, fhb (rdK W w0 L i n), s) ∧ n ≤ 20 ∧ (∀ j, j < n → ¬ rdK W w0 L i j = true) ∧ ahS W L w0 rd σ n s) (μ := fun x => 20 - x.1.toNatClampNeg) ?_ ⟨0, r.2, rfl, Nat.zero_le _, fun j hj => absurd hj (Nat.not_lt_zero _), z2⟩
  rintro x ⟨n, s, rfl, hn, hno, hs⟩
  (try dsimp only)
  unfold f_X12_learns_23
  cases q : rdK W w0 L i n with
  | true =>
    rw [if_neg (show ¬ fhb true = 0 by decide), wq_map]
    unfold f_X12_learns_52
    rw [wq_bind]
    refine wq_mono (asd_back hs.1 h62) (fun s2 z3 => ?_)
    rw [if_neg (show ¬ fhb true = 0 by decide), wq_some, fhK_r]
    exact ⟨Or.inl ⟨n, hn, q, hno, rfl⟩, z3⟩
  | false =>
    rw [if_pos (show fhb false = 0 from rfl)]
    by_cases q20 : n = 20
    · rw [if_pos (show (20 : Int32) ≤ nI n by rw [q20]; decide), wq_map]
      unfold f_X12_learns_52
      rw [wq_bind]
      refine wq_mono (asd_back hs.1 h62) (fun s2 z3 => ?_)
      rw [if_pos (show fhb false = 0 from rfl), wq_some, fhK_r]
      refine ⟨Or.inr ⟨fun j hj => ?_, rfl⟩, z3⟩
      show ¬ rdK W w0 L i j = true
      by_cases qj : j = n
      · rw [qj, q]; decide
      · exact hno j (by omega)
    · rw [if_neg (show ¬ (20 : Int32) ≤ nI n from nI_ge (b := 20) (by omega) (by decide)), wq_bind]
      refine wq_mono (ahS_s hW hs hi hw0 (by omega) hrd) (fun r2 z3 => ?_)
      rw [wq_bind]
      refine wq_mono (ahS_k hW z3 hw0 hg2) (fun r3 z4 => ?_)
      obtain ⟨z4, z5⟩ := z4
      rw [wq_some, fhK_l, nI_1, z4]
      refine ⟨⟨n + 1, r3.2, rfl, by omega, fun j hj => ?_, z5⟩, ?_⟩
      · by_cases qj : j = n
        · rw [qj, q]; decide
        · exact hno j (by omega)
      · show 20 - (nI (n + 1)).toNatClampNeg < 20 - (nI n).toNatClampNeg
        rw [nI_clamp (by omega), nI_clamp (by omega)]
        omega
theorem m_restsL (hW : wOK W) {σ : fhM} (hrw : rwM' W σ) (hg : gmM W L w0 rd σ) (hi : lin W L) (hw0 : w0 ∈ rl W.N L) (h62 : σ.1 0 62 = 0) (hrd : rd ≤ 1000) :
    wq (Option.bind (f_X12_putsAside σ) fun q1 => fhlp (fun x => f_X12_rests_17 x.1 x.2.1 x.2.2) ((-1 : Int32), (0 : Int32), q1)) (fun r => fst20 (fun n => rdL W w0 L (n + 1) = rdL W w0 L n) r.1 ∧ fr yD σ r.2) := by
  rw [wq_bind]
  have hN10 := hW.2.1
  refine wq_mono (ahS_0 hrw hg) (fun s0 z0 => ?_)
  have hl : ∀ n, rdL W w0 L n < 2 ^ 31 := fun n => by
    have := rl_len W.N (itr W w0 L n)
    unfold rdL
    omega
  refine wq_for (R := fun n x => ∃ v s, x = (v, nI n, s) ∧ ahS W L w0 rd σ n s ∧ (((∀ j, j < n → ¬ rdL W w0 L (j + 1) = rdL W w0 L j) ∧ v = -1) ∨ ∃ m, m ≤ 20 ∧ m < n ∧ rdL W w0 L (m + 1) = rdL W w0 L m ∧ (∀ j, j < m → ¬ rdL W w0 L (j + 1) = rdL W w0 L j) ∧ v = nI m)) 0 21 (by decide) ?_ ?_ ⟨-1, s0, rfl, z0, Or.inl ⟨fun j hj => absurd hj (Nat.not_lt_zero _), rfl⟩⟩
  · rintro n x - hn ⟨v, s, rfl, hs, hv⟩
    (try dsimp only)
    unfold f_X12_rests_17
    rw [if_neg (show ¬ (20 : Int32) < nI n from nI_nlt (a := 20) (by omega) (by omega))]
    rcases hv with ⟨hno, rfl⟩ | ⟨m, m1, m2, m3, m4, rfl⟩
    · have e1 := m_leftMany hW hs.2.2.1.1 (itr_in hi n)
      rw [if_pos rfl, e1, wq_bind, wq_some, wq_bind]
      refine wq_mono (ahS_s hW hs hi hw0 (by omega) hrd) (fun r z => ?_)
      have e2 := m_leftMany hW z.2.2.1.1 (itr_in hi (n + 1))
      rw [e2, wq_bind, wq_some]
      unfold f_X12_rests_50
      rw [wq_some, fhK_l, nI_1]
      have l1 := hl n
      have l2 := hl (n + 1)
      refine ⟨_, r.2, rfl, z, ?_⟩
      by_cases q : rdL W w0 L (n + 1) = rdL W w0 L n
      · exact Or.inr ⟨n, by omega, Nat.lt_succ_self n, q, hno, if_pos (congrArg nI q)⟩
      · refine Or.inl ⟨fun j hj => ?_, if_neg (fun z => q ((nI_eq l2 l1).mp z))⟩
        by_cases qj : j = n
        · rw [qj]; exact q
        · exact hno j (by omega)
    · rw [if_neg (ph_m1n (by omega)), wq_map]
      unfold f_X12_rests_56
      rw [wq_bind]
      refine wq_mono (asd_back hs.1 h62) (fun s2 z3 => ?_)
      rw [wq_some, fhK_r]
      exact ⟨Or.inl ⟨m, m1, m3, m4, rfl⟩, z3⟩
  · rintro x ⟨v, s, rfl, hs, hv⟩
    (try dsimp only)
    unfold f_X12_rests_17
    rw [if_pos (show (20 : Int32) < nI 21 by decide), wq_map]
    unfold f_X12_rests_56
    rw [wq_bind]
    refine wq_mono (asd_back hs.1 h62) (fun s2 z3 => ?_)
    rw [wq_some, fhK_r]
    refine ⟨?_, z3⟩
    rcases hv with ⟨hno, rfl⟩ | ⟨m, m1, m2, m3, m4, rfl⟩
    · exact Or.inr ⟨fun j hj => hno j (by omega), rfl⟩
    · exact Or.inl ⟨m, m1, m3, m4, rfl⟩
end
