/-! THE JOURNAL, the class: what was told, what is saved -/
theorem ph_bitA {a l : Nat} (hl : l < 32) : ((nI a >>> (nI l &&& 31)) &&& (1 : Int32)) = bI (a.testBit l) := by
  apply Int32.toBitVec_inj.1
  rw [Int32.toBitVec_and, Int32.toBitVec_shiftRight, BitVec.sshiftRight_eq', ph_shk l hl]
  apply BitVec.eq_of_getLsbD_eq
  intro i hi
  have e1 : (1 : Int32).toBitVec.getLsbD i = decide (i = 0) := by
    show (1#32).getLsbD i = _
    rw [BitVec.getLsbD_one]
    by_cases q : i = 0
    · rw [q]; rfl
    · rw [decide_eq_false q]; simp [q]
  have e2 : (bI (a.testBit l)).toBitVec.getLsbD i = (decide (i = 0) && a.testBit l) := by
    cases a.testBit l with
    | true => rw [Bool.and_true, ← e1]; rfl
    | false => rw [Bool.and_false]; show (0#32).getLsbD i = false; exact BitVec.getLsbD_zero
  rw [BitVec.getLsbD_and, e1, e2]
  by_cases q : i = 0
  · rw [q, BitVec.getLsbD_sshiftRight, if_pos (show l + 0 < 32 by omega), Nat.add_zero]
    show ((!decide (32 ≤ 0) && (BitVec.ofNat 32 a).getLsbD l) && decide (0 = 0)) = _
    rw [BitVec.getLsbD_ofNat, decide_eq_true hl]
    simp
  · rw [decide_eq_false q, Bool.and_false, Bool.false_and]
theorem nI_min {a b : Nat} (ha : a < 2 ^ 31) (hb : b < 2 ^ 31) (σ : fhM) : f_J9_min_7cf53 (nI a) (nI b) σ = nI (min a b) := by
  unfold f_J9_min_7cf53
  by_cases q : b < a
  · rw [if_pos (nI_lt q ha), Nat.min_eq_right (by omega)]
  · rw [if_neg (nI_nlt (by omega) hb), Nat.min_eq_left (by omega)]
/-- a game: rounds, the row worn, the rows left, all that was told -/
abbrev gG : Type := Nat × Nat × (Nat → Bool) × List kE
abbrev gG.rd (G : gG) : Nat := G.1
abbrev gG.w (G : gG) : Nat := G.2.1
abbrev gG.L (G : gG) : Nat → Bool := G.2.2.1
abbrev gG.H (G : gG) : List kE := G.2.2.2
/-- the first entry that is still there -/
def bas (H : List kE) (S : List gG) : Nat := match S.getLast? with
  | none => H.length
  | some G => G.H.length
def rngF (b : Nat) (H : List kE) (σ : fhM) : Prop := σ.1 93 1 = nI H.length ∧ ∀ k e, H[k]? = some e → b ≤ k + 40 → σ.1 95 (4 * (k % 512)) = nI e.1 ∧ σ.1 95 (4 * (k % 512) + 1) = nI e.2.1 ∧ σ.1 95 (4 * (k % 512) + 2) = nI e.2.2.1 ∧ σ.1 95 (4 * (k % 512) + 3) = nI e.2.2.2
def sltF (N p : Nat) (G : gG) (t : Nat → Int32) : Prop := t (35 * p) = nI G.w ∧ t (35 * p + 1) = nI G.rd ∧ t (35 * p + 2) = nI G.H.length ∧ ∀ q, q < 32 → ∃ a, t (35 * p + 3 + q) = nI a ∧ ∀ b, b < 32 → a.testBit b = decide (32 * q + b ∈ rl N G.L)
def stkF (N : Nat) (S : List gG) (p : Nat) (σ : fhM) : Prop := σ.1 93 3 = nI p ∧ p < 20 ∧ σ.1 93 4 = nI S.length ∧ S.length ≤ 20 ∧ ∀ k G, S[k]? = some G → sltF N ((p + 19 - k) % 20) G (σ.1 97)
def chn : List kE → List gG → Prop
  | _, [] => True
  | H, G :: S => (∃ t, H = G.H ++ t ∧ t.length ≤ 20) ∧ chn G.H S
theorem chn_len : ∀ {S : List gG} {H : List kE}, chn H S → bas H S ≤ H.length ∧ H.length ≤ bas H S + 20 * S.length := by
  intro S
  induction S with
  | nil => intro H _; exact ⟨Nat.le_refl _, Nat.le_add_right _ _⟩
  | cons G S ih =>
    intro H h
    obtain ⟨⟨t, e, ht⟩, h2⟩ := h
    obtain ⟨i1, i2⟩ := ih h2
    have hb : bas H (G :: S) = bas G.H S := by
      unfold bas
      cases S with
      | nil => rfl
      | cons G2 S => rfl
    have hl : H.length = G.H.length + t.length := by rw [e, List.length_append]
    rw [hb, List.length_cons]
    omega
section
variable {W : gW} {L : Nat → Bool} {w0 rd : Nat}
theorem c_save (hW : wOK W) {σ : fhM} (hg : gmF W L w0 rd σ) {H : List kE} {S : List gG} {p : Nat} (hH : σ.1 93 1 = nI H.length) (hS : stkF W.N S p σ) :
    wq (f_X6_save σ) (fun s => ∃ t, s = fhI (fhI (fhU σ 97 t) 93 3 (nI ((p + 1) % 20))) 93 4 (nI (min (S.length + 1) 20)) ∧ sltF W.N p (rd, w0, L, H) t ∧ ∀ j, ¬ (35 * p ≤ j ∧ j < 35 * p + 35) → t j = σ.1 97 j) := by
  obtain ⟨h8, h9, h10, h73, h75⟩ := hg
  obtain ⟨s3, hp, s4, hl, _⟩ := hS
  have hN10 := hW.2.1
  have hll := rl_len W.N L
  have hN : fcL 96 = 700 := rfl
  unfold f_X6_save
  rw [s3, show (35 : Int32) = nI 35 from rfl, pk_mul, Nat.mul_comm p 35]
  refine wq_for (R := fun k x => ∃ t, x = (nI k, fhU σ 97 t) ∧ (∀ j, 35 * p ≤ j → j < 35 * p + k → t j = 0) ∧ ∀ j, ¬ (35 * p ≤ j ∧ j < 35 * p + 35) → t j = σ.1 97 j) 0 35 (Nat.zero_le _) ?_ ?_ ⟨σ.1 97, by rw [fhU_id (fun _ => rfl)]; rfl, fun j a b => by omega, fun _ _ => rfl⟩
  · rintro k x - hk ⟨t, rfl, ht, hf⟩
    (try dsimp only)
    unfold f_X6_save_10
    rw [show (35 : Int32) = nI 35 from rfl, if_neg (nI_ge hk (by omega)), nI_1, nI_add, fcP_at hN (show 35 * p + k < 700 by omega) (by omega), fhU_I, wq_some, fhK_l]
    refine ⟨_, rfl, fun j a b => ?_, fun j a => ?_⟩
    · by_cases q : j = 35 * p + k
      · (try dsimp only)
        rw [if_pos q]
      · (try dsimp only)
        rw [if_neg q]
        exact ht j a (by omega)
    · (try dsimp only)
      rw [if_neg (by omega)]
      exact hf j a
  · rintro x ⟨t, rfl, ht, hf⟩
    (try dsimp only)
    unfold f_X6_save_10
    rw [show (35 : Int32) = nI 35 from rfl, if_pos (nI_le (Nat.le_refl _) (by omega)), show (1 : Int32) = nI 1 from rfl, show (2 : Int32) = nI 2 from rfl, nI_add, nI_add, fcP_at hN (show 35 * p < 700 by omega) (by omega), fcP_at hN (show 35 * p + 1 < 700 by omega) (by omega), fcP_at hN (show 35 * p + 2 < 700 by omega) (by omega), fhU_I, fhU_I, fhU_I, fhU_o (show 56 ≠ 97 by decide), fhU_o (show 56 ≠ 97 by decide), fhU_o (show 93 ≠ 97 by decide), h9, h10, hH, wq_map]
    refine wq_for (R := fun k x => ∃ t, x = (nI k, fhU σ 97 t) ∧ t (35 * p) = nI w0 ∧ t (35 * p + 1) = nI rd ∧ t (35 * p + 2) = nI H.length ∧ (∀ q, q < 32 → ∃ a, t (35 * p + 3 + q) = nI a ∧ ∀ b, b < 32 → a.testBit b = decide (32 * q + b ∈ (rl W.N L).take k)) ∧ ∀ j, ¬ (35 * p ≤ j ∧ j < 35 * p + 35) → t j = σ.1 97 j) 0 (rl W.N L).length (Nat.zero_le _) ?_ ?_ ?_
    · rintro k x - hk ⟨t, rfl, t0, t1, t2, tb, tf⟩
      (try dsimp only)
      unfold f_X6_save_75 fhlet
      have hxm := getD_mem hk
      have hx := rl_lt _ hxm
      have ht := take_s hk
      have h73k := h73 k hk
      generalize (rl W.N L).getD k 0 = r at hxm hx ht h73k
      have hpw : 1 * 2 ^ (r % 32) < 2 ^ 32 := by
        have : 2 ^ (r % 32) ≤ 2 ^ 31 := Nat.pow_le_pow_right (by decide) (by omega)
        omega
      have hand : nI r &&& (31 : Int32) = nI (r % 32) := by
        rw [show (31 : Int32) = nI 31 from rfl, ph_and, show r &&& 31 = r % 32 from Nat.and_two_pow_sub_one_eq_mod r 5]
      obtain ⟨a, ta, tab⟩ := tb (r / 32) (by omega)
      rw [fhU_o (show 56 ≠ 97 by decide), h8, if_neg (nI_ge hk (by omega)), cg72 (by omega), fhU_o (show 73 ≠ 97 by decide), h73k, hand]
      rw [show (1 : Int32) <<< (nI (r % 32) &&& 31) = nI (2 ^ (r % 32)) by rw [show (1 : Int32) = nI 1 from rfl, ph_shl (by omega) hpw, Nat.one_mul]]
      rw [show (5 : Int32) = nI 5 from rfl, ph_shr (by omega) (by omega), show (3 : Int32) = nI 3 from rfl, nI_add, nI_add, show (2 : Nat) ^ 5 = 32 from rfl, nI_1]
      dsimp only
      rw [fcG_at hN (show 35 * p + 3 + r / 32 < 700 by omega) (by omega), fcP_at hN (show 35 * p + 3 + r / 32 < 700 by omega) (by omega), fhU_e, ta, ph_or, fhU_I, wq_some, fhK_l]
      refine ⟨_, rfl, ?_, ?_, ?_, fun q hq => ?_, fun j hj => ?_⟩
      · (try dsimp only)
        rw [if_neg (by omega)]; exact t0
      · (try dsimp only)
        rw [if_neg (by omega)]; exact t1
      · (try dsimp only)
        rw [if_neg (by omega)]; exact t2
      · (try dsimp only)
        by_cases qq : q = r / 32
        · refine ⟨a ||| 2 ^ (r % 32), by rw [if_pos (by omega)], fun b hb => ?_⟩
          rw [Nat.testBit_or, Nat.testBit_two_pow, qq, tab b hb, ht]
          by_cases q2 : r % 32 = b
          · rw [decide_eq_true q2, Bool.or_true]
            symm
            exact decide_eq_true (List.mem_append.mpr (Or.inr (List.mem_singleton.mpr (by omega))))
          · rw [decide_eq_false q2, Bool.or_false]
            refine decide_eq_decide.mpr ?_
            rw [List.mem_append, List.mem_singleton]
            exact ⟨Or.inl, fun z => z.elim id (fun z => absurd z (by omega))⟩
        · obtain ⟨a2, ta2, tab2⟩ := tb q hq
          refine ⟨a2, by rw [if_neg (by omega)]; exact ta2, fun b hb => ?_⟩
          rw [tab2 b hb, ht]
          refine decide_eq_decide.mpr ?_
          rw [List.mem_append, List.mem_singleton]
          exact ⟨Or.inl, fun z => z.elim id (fun z => absurd z (by omega))⟩
      · (try dsimp only)
        rw [if_neg (by omega)]
        exact tf j hj
    · rintro x ⟨t, rfl, t0, t1, t2, tb, tf⟩
      (try dsimp only)
      unfold f_X6_save_75
      rw [fhU_o (show 56 ≠ 97 by decide), h8, if_pos (nI_le (Nat.le_refl _) (by omega)), fhU_o (show 93 ≠ 97 by decide), s3, show (1 : Int32) = nI 1 from rfl, show (20 : Int32) = nI 20 from rfl, nI_add, ph_rem (by omega) (by decide) (by decide), fhU_o (show 93 ≠ 97 by decide), s4, nI_add, nI_min (by omega) (by decide), wq_some, fhK_r, fhK_r]
      rw [List.take_length] at tb
      exact ⟨t, rfl, ⟨t0, t1, t2, tb⟩, tf⟩
    · refine ⟨_, rfl, ?_, ?_, ?_, fun q hq => ⟨0, ?_, fun b hb => ?_⟩, fun j hj => ?_⟩
      · (try dsimp only)
        rw [if_neg (by omega), if_neg (by omega), if_pos rfl]
      · (try dsimp only)
        rw [if_neg (by omega), if_pos rfl]
      · (try dsimp only)
        rw [if_pos rfl]
      · (try dsimp only)
        rw [if_neg (by omega), if_neg (by omega), if_neg (by omega)]
        exact ht _ (by omega) (by omega)
      · rw [List.take_zero, Nat.zero_testBit]
        symm
        exact decide_eq_false (List.not_mem_nil)
      · (try dsimp only)
        rw [if_neg (by omega), if_neg (by omega), if_neg (by omega)]
        exact hf j hj
end
