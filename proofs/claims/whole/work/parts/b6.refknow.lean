/-! THE REFERENCE: who knows -/
def rwM' (W : gW) (σ : fhM) : Prop := σ.1 29 5 = nI W.m ∧ σ.1 29 6 = nI W.g ∧ σ.1 0 52 = nI W.N ∧ ∀ r i, r < W.N → i < W.g → σ.1 39 (1024 * i + r) = nI (W.vw r i)
theorem rwM'_U {W : gW} {σ : fhM} {t : Nat} {g : Nat → Int32} (h : rwM' W σ) (h1 : t ≠ 29) (h2 : t ≠ 0) (h3 : t ≠ 39) : rwM' W (fhU σ t g) := ⟨by rw [fhU_o (Ne.symm h1)]; exact h.1, by rw [fhU_o (Ne.symm h1)]; exact h.2.1, by rw [fhU_o (Ne.symm h2)]; exact h.2.2.1, fun r i a b => by rw [fhU_o (Ne.symm h3)]; exact h.2.2.2 r i a b⟩
theorem rwM'_I {W : gW} {σ : fhM} {t k : Nat} {x : Int32} (h : rwM' W σ) (h1 : t ≠ 29) (h2 : t ≠ 0 ∨ k ≠ 52) (h3 : t ≠ 39) : rwM' W (fhI σ t k x) := ⟨by rw [fhI_o (Ne.symm h1)]; exact h.1, by rw [fhI_o (Ne.symm h1)]; exact h.2.1, by rw [fhI_r, if_neg (by omega)]; exact h.2.2.1, fun r i a b => by rw [fhI_o (Ne.symm h3)]; exact h.2.2.2 r i a b⟩
theorem mk_mo {W : gW} (hW : wOK W) {σ : fhM} (h : rwM' W σ) {r i : Nat} (hr : r < W.N) (hi : i < W.g) : f_X12_markOf (nI r) (nI i) σ = some (nI (W.mk r i)) := by
  have h1 := hW.1
  have h2 := hW.2.1
  have h3 := hW.2.2.2.1
  have h4 := hW.2.2.2.2.2.2.2.2.2 (by omega)
  exact m_markOf ⟨h4, h3⟩ h.1 (by omega) (by omega)
theorem m_isOne {x : Nat} (h : x < 2 ^ 31) (σ : fhM) : f_X12_isOne (nI x) σ = one x := by
  unfold f_X12_isOne one
  by_cases q : x = 0
  · rw [if_pos (by rw [nI_eq0 h]; exact q), decide_eq_false (fun z => z q)]
    rfl
  · have hle : x &&& (x - 1) ≤ x := Nat.and_le_left
    rw [if_neg (by rw [nI_eq0 h]; exact q), nI_dec (by omega), ph_and, decide_eq_true q, Bool.true_and]
    by_cases q2 : x &&& (x - 1) = 0
    · rw [if_pos (by rw [q2]; rfl), decide_eq_true q2]
    · rw [if_neg (by rw [nI_eq0 (by omega)]; exact q2), decide_eq_false q2]
/-- which rows are left -/
def lfM (L : Nat → Bool) (σ : fhM) : Prop := ∀ r, r < 1024 → σ.1 44 (2 + r) = nI (if L r = true then 1 else 0)
theorem lfM_U {L : Nat → Bool} {σ : fhM} {t : Nat} {g : Nat → Int32} (h : lfM L σ) (ht : t ≠ 44) : lfM L (fhU σ t g) := fun r hr => by rw [fhU_o (Ne.symm ht)]; exact h r hr
theorem lfM_I {L : Nat → Bool} {σ : fhM} {t k : Nat} {x : Int32} (h : lfM L σ) (ht : t ≠ 44) : lfM L (fhI σ t k x) := fun r hr => by rw [fhI_o (Ne.symm ht)]; exact h r hr
theorem m_isLeft {L : Nat → Bool} {σ : fhM} (h : lfM L σ) {r : Nat} (hr : r < 1024) : f_X12_isLeft (nI r) σ = some (L r) := by
  unfold f_X12_isLeft
  rw [show (2 : Int32) = nI 2 from rfl, nI_add, if_pos (ph_in1 (by omega) (by omega)), ph_ix (by omega), h r hr]
  cases L r
  · rw [if_neg (show ¬ false = true by decide), if_neg (show ¬ nI 0 = (1 : Int32) by decide)]
  · rw [if_pos rfl, if_pos (show nI 1 = (1 : Int32) from rfl)]
section
variable {W : gW} {L : Nat → Bool}
theorem m_laysKnowing (hW : wOK W) {σ : fhM} (hrw : rwM' W σ) (hL : lfM L σ) : wq (f_X12_laysKnowing σ) (fun s => ∃ t u, s = fhU (fhU σ 46 t) 42 u ∧ ∀ r, r < W.N → t r = nI (if L r = true then kb W (rl W.N L) r else 0)) := by
  have hg5 := hW.1
  have hN10 := hW.2.1
  unfold f_X12_laysKnowing
  refine wq_for (R := fun k x => ∃ t, x = (nI k, fhU σ 46 t) ∧ ∀ r, r < k → t r = 0) 0 W.N (Nat.zero_le _) ?_ ?_ ⟨σ.1 46, by rw [fhU_id (fun _ => rfl)]; rfl, fun r hr => absurd hr (Nat.not_lt_zero _)⟩
  · rintro k x - hk ⟨t, rfl, ht⟩
    (try dsimp only)
    unfold f_X12_laysKnowing_2
    rw [fhU_o (by decide), hrw.2.2.1, if_neg (nI_ge hk (by omega)), if_pos (ph_in1 (by omega) (by omega)), ph_ix (by omega), fhU_I, nI_1, wq_some, fhK_l]
    refine ⟨_, rfl, fun r hr => ?_⟩
    (try dsimp only)
    by_cases q : r = k
    · rw [if_pos q]
    · rw [if_neg q]; exact ht r (by omega)
  · rintro x ⟨t0, rfl, ht0⟩
    (try dsimp only)
    unfold f_X12_laysKnowing_2
    rw [fhU_o (by decide), hrw.2.2.1, if_pos (nI_le (Nat.le_refl _) (by omega)), wq_map]
    refine wq_for (R := fun i x => ∃ t u, x = (nI i, fhU (fhU σ 46 t) 42 u) ∧ ∀ r, r < W.N → t r = nI (if L r = true then kbN W (rl W.N L) r i else 0)) 0 W.g (Nat.zero_le _) ?_ ?_ ⟨t0, (fhU σ 46 t0).1 42, by rw [fhU_id (fun _ => rfl)]; rfl, fun r hr => ?_⟩
    · rintro i x - hi ⟨t, u, rfl, ht⟩
      (try dsimp only)
      unfold f_X12_laysKnowing_25 f_X12_guestMany
      have hrw1 : ∀ t u, rwM' W (fhU (fhU σ 46 t) 42 u) := fun t u => rwM'_U (rwM'_U hrw (by decide) (by decide) (by decide)) (by decide) (by decide) (by decide)
      have hL1 : ∀ t u, lfM L (fhU (fhU σ 46 t) 42 u) := fun t u => lfM_U (lfM_U hL (by decide)) (by decide)
      rw [(hrw1 t u).2.1, if_neg (nI_ge hi (by omega))]
      refine wq_for (R := fun k x => ∃ u, x = (nI k, fhU (fhU σ 46 t) 42 u) ∧ ∀ v, v < k → u v = 0) 0 W.N (Nat.zero_le _) ?_ ?_ ⟨u, rfl, fun v hv => absurd hv (Nat.not_lt_zero _)⟩
      · rintro k x - hk ⟨u, rfl, hu⟩
        (try dsimp only)
        unfold f_X12_laysKnowing_35
        rw [(hrw1 t u).2.2.1, if_neg (nI_ge hk (by omega)), if_pos (ph_in1 (by omega) (by omega)), ph_ix (by omega), fhU_I, nI_1, wq_some, fhK_l]
        refine ⟨_, rfl, fun v hv => ?_⟩
        (try dsimp only)
        by_cases q : v = k
        · rw [if_pos q]
        · rw [if_neg q]; exact hu v (by omega)
      · rintro x ⟨u, rfl, hu⟩
        (try dsimp only)
        unfold f_X12_laysKnowing_35
        rw [(hrw1 t u).2.2.1, if_pos (nI_le (Nat.le_refl _) (by omega)), wq_map]
        refine wq_for (R := fun k x => ∃ u, x = (nI k, fhU (fhU σ 46 t) 42 u) ∧ ∀ v, v < W.N → u v = nI (msk W (rl k L) i v)) 0 W.N (Nat.zero_le _) ?_ ?_ ⟨u, rfl, hu⟩
        · rintro k x - hk ⟨u, rfl, hu⟩
          (try dsimp only)
          unfold f_X12_laysKnowing_58 f_X12_laysKnowing_102
          have hv := hW.2.2.2.2.2.1 k i hk
          have hm := hW.2.2.2.2.1 k i hk
          rw [(hrw1 t u).2.2.1, if_neg (nI_ge hk (by omega)), m_isLeft (hL1 t u) (by omega), wq_bind, wq_some, nI_1]
          by_cases q : L k = true
          · rw [if_pos q, show (1024 : Int32) = nI 1024 from rfl, pk_mul, nI_add, ph_ix (k := 1024 * i + k) (by omega), (hrw1 t u).2.2.2 k i hk hi, ph_in (by omega), ph_in (by omega), decide_eq_true (show 1024 * i + k < 5120 by omega), decide_eq_true (show W.vw k i < 1024 by omega), if_pos (show (true && (true && true)) = true from rfl), mk_mo hW (hrw1 t u) hk hi, wq_bind, wq_some, if_pos (show (true && true) = true from rfl), ph_ix (by omega), fhU_e, hu _ hv, ph_shl1 (by omega), ph_or, fhU_I, wq_some, fhK_l]
            refine ⟨_, rfl, fun v hv2 => ?_⟩
            (try dsimp only)
            rw [rl_s, if_pos q, msk_s]
            by_cases q2 : v = W.vw k i
            · rw [if_pos q2, if_pos q2.symm, q2]
            · rw [if_neg q2, if_neg (fun z => q2 z.symm)]; exact hu v hv2
          · rw [if_neg q, wq_some, fhK_l]
            refine ⟨u, rfl, fun v hv2 => ?_⟩
            rw [rl_s, if_neg q]; exact hu v hv2
        · rintro x ⟨u, rfl, hu⟩
          (try dsimp only)
          unfold f_X12_laysKnowing_58
          rw [(hrw1 t u).2.2.1, if_pos (nI_le (Nat.le_refl _) (by omega)), wq_map]
          refine wq_for (R := fun k x => ∃ t, x = (nI k, fhU (fhU σ 46 t) 42 u) ∧ ∀ r, r < W.N → t r = nI (if L r = true then kbN W (rl W.N L) r (if r < k then i + 1 else i) else 0)) 0 W.N (Nat.zero_le _) ?_ ?_ ⟨t, rfl, fun r hr => by rw [if_neg (Nat.not_lt_zero r)]; exact ht r hr⟩
          · rintro k x - hk ⟨t, rfl, ht⟩
            (try dsimp only)
            unfold f_X12_laysKnowing_110 f_X12_laysKnowing_161
            have hv := hW.2.2.2.2.2.1 k i hk
            have hm16 : msk W (rl W.N L) i (W.vw k i) < 16 := msk_lt (fun r hr => hW.2.2.2.2.1 r i (rl_mem.mp hr).1)
            rw [(hrw1 t u).2.2.1, if_neg (nI_ge hk (by omega)), m_isLeft (hL1 t u) (by omega), wq_bind, wq_some, nI_1]
            by_cases q : L k = true
            · rw [if_pos q, show (1024 : Int32) = nI 1024 from rfl, pk_mul, nI_add, ph_ix (k := 1024 * i + k) (by omega), (hrw1 t u).2.2.2 k i hk hi, ph_in (by omega), ph_in (by omega), decide_eq_true (show 1024 * i + k < 5120 by omega), decide_eq_true (show W.vw k i < 1024 by omega), if_pos (show (true && (true && true)) = true from rfl), ph_ix (k := W.vw k i) (by omega), fhU_e, hu _ hv, m_isOne (by omega)]
              by_cases q2 : one (msk W (rl W.N L) i (W.vw k i)) = true
              · rw [if_pos q2, ph_in (by omega), decide_eq_true (show k < 1024 by omega), if_pos (show (true && (true && true)) = true from rfl), ph_ix (by omega), fhU_o (by decide), fhU_e, ht k hk, if_pos q, if_neg (Nat.lt_irrefl k), ph_shl1 (by omega), ph_or, fhU_IO (by decide), fhU_I, wq_some, fhK_l]
                refine ⟨_, rfl, fun r hr => ?_⟩
                (try dsimp only)
                by_cases q3 : r = k
                · rw [if_pos q3, q3, if_pos q, if_pos (Nat.lt_succ_self k), kbN_s, if_pos q2]
                · rw [if_neg q3, ht r hr]
                  by_cases q4 : r < k
                  · rw [if_pos q4, if_pos (show r < k + 1 by omega)]
                  · rw [if_neg q4, if_neg (show ¬ r < k + 1 by omega)]
              · rw [if_neg q2, wq_some, fhK_l]
                refine ⟨t, rfl, fun r hr => ?_⟩
                rw [ht r hr]
                by_cases q3 : r = k
                · rw [q3, if_neg (Nat.lt_irrefl k), if_pos (Nat.lt_succ_self k), kbN_s, if_neg q2]
                · by_cases q4 : r < k
                  · rw [if_pos q4, if_pos (show r < k + 1 by omega)]
                  · rw [if_neg q4, if_neg (show ¬ r < k + 1 by omega)]
            · rw [if_neg q, wq_some, fhK_l]
              refine ⟨t, rfl, fun r hr => ?_⟩
              rw [ht r hr]
              by_cases q3 : r = k
              · rw [q3, if_neg q, if_neg q]
              · by_cases q4 : r < k
                · rw [if_pos q4, if_pos (show r < k + 1 by omega)]
                · rw [if_neg q4, if_neg (show ¬ r < k + 1 by omega)]
          · rintro x ⟨t, rfl, ht⟩
            (try dsimp only)
            unfold f_X12_laysKnowing_110
            rw [(hrw1 t u).2.2.1, if_pos (nI_le (Nat.le_refl _) (by omega)), nI_1, wq_some, fhK_r, fhK_r, fhK_r, fhK_l]
            exact ⟨t, u, rfl, fun r hr => by rw [ht r hr, if_pos hr]⟩
    · rintro x ⟨t, u, rfl, ht⟩
      (try dsimp only)
      unfold f_X12_laysKnowing_25 f_X12_guestMany
      rw [fhU_o (by decide), fhU_o (by decide), hrw.2.1, if_pos (nI_le (Nat.le_refl _) (by omega)), wq_some, fhK_r, fhK_r]
      exact ⟨t, u, rfl, ht⟩
    · rw [ht0 r hr]
      split <;> rfl
/-- how many rows of a list are seen alike -/
def cnv (W : gW) (l : List Nat) (i v : Nat) : Nat := l.foldl (fun n r => if W.vw r i = v then n + 1 else n) 0
theorem cnv_s (W : gW) (l : List Nat) (x i v : Nat) : cnv W (l ++ [x]) i v = if W.vw x i = v then cnv W l i v + 1 else cnv W l i v := by
  unfold cnv
  rw [List.foldl_append]
  rfl
theorem m_laysOwn (hW : wOK W) {σ : fhM} (hrw : rwM' W σ) (hL : lfM L σ) {w0 i : Nat} (h1 : σ.1 44 1 = nI w0) (hw : w0 < W.N) (hi : i < W.g) : wq (f_X12_laysOwn (nI i) σ) (fun s => s = fhI (fhI σ 47 i (nI (cnv W (rl W.N L) i (W.vw w0 i)))) 48 i (nI (msk W (rl W.N L) i (W.vw w0 i)))) := by
  have hg5 := hW.1
  have hN10 := hW.2.1
  unfold f_X12_laysOwn
  rw [ph_in (by omega), decide_eq_true (show i < 5 by omega), if_pos (show (true && (true && true)) = true from rfl), ph_ix (by omega)]
  refine wq_for (R := fun k x => x = (nI k, fhI (fhI σ 47 i (nI (cnv W (rl k L) i (W.vw w0 i)))) 48 i (nI (msk W (rl k L) i (W.vw w0 i))))) 0 W.N (Nat.zero_le _) ?_ ?_ rfl
  · rintro k x - hk rfl
    (try dsimp only)
    unfold f_X12_laysOwn_16 f_X12_laysOwn_94
    have hm := hW.2.2.2.2.1 k i hk
    have hrw1 : ∀ a b, rwM' W (fhI (fhI σ 47 i a) 48 i b) := fun a b => rwM'_I (rwM'_I hrw (by decide) (by omega) (by decide)) (by decide) (by omega) (by decide)
    have hL1 : ∀ a b, lfM L (fhI (fhI σ 47 i a) 48 i b) := fun a b => lfM_I (lfM_I hL (by decide)) (by decide)
    rw [(hrw1 _ _).2.2.1, if_neg (nI_ge hk (by omega)), m_isLeft (hL1 _ _) (by omega), wq_bind, wq_some, nI_1 k, rl_s]
    by_cases q : L k = true
    · rw [if_pos q, if_pos q, cnv_s, msk_s, fhI_o (show 44 ≠ 48 by decide), fhI_o (show 44 ≠ 47 by decide), h1, show (1024 : Int32) = nI 1024 from rfl, pk_mul, nI_add, nI_add, ph_ix (k := 1024 * i + k) (by omega), ph_ix (k := 1024 * i + w0) (by omega), (hrw1 _ _).2.2.2 k i hk hi, (hrw1 _ _).2.2.2 w0 i hw hi, ph_in (by omega), ph_in (by omega), decide_eq_true (show 1024 * i + k < 5120 by omega), decide_eq_true (show 1024 * i + w0 < 5120 by omega), if_pos (show (true && (true && true)) = true from rfl)]
      have v1 := hW.2.2.2.2.2.1 k i hk
      have v2 := hW.2.2.2.2.2.1 w0 i hw
      by_cases q2 : W.vw k i = W.vw w0 i
      · rw [if_pos (by rw [q2]), if_pos q2, if_pos q2, ph_in (by omega), decide_eq_true (show i < 5 by omega), if_pos (show (true && (true && (true && true))) = true from rfl), ph_ix (by omega)]
        have e1 : fhI (fhI (fhI σ 47 i (nI (cnv W (rl k L) i (W.vw w0 i)))) 48 i (nI (msk W (rl k L) i (W.vw w0 i)))) 47 i ((fhI (fhI σ 47 i (nI (cnv W (rl k L) i (W.vw w0 i)))) 48 i (nI (msk W (rl k L) i (W.vw w0 i)))).1 47 i + 1) = fhI (fhI σ 47 i (nI (cnv W (rl k L) i (W.vw w0 i) + 1))) 48 i (nI (msk W (rl k L) i (W.vw w0 i))) := by
          rw [fhI_o (show 47 ≠ 48 by decide), fhI_e, nI_1, fhI_IO (Or.inl (by decide)), fhI_I]
        rw [e1, mk_mo hW (hrw1 _ _) hk hi, wq_bind, wq_some, if_pos (show (true && true) = true from rfl), fhI_e, ph_shl1 (by omega), ph_or, fhI_I, wq_some, fhK_l]
      · rw [if_neg (fun z => q2 ((nI_eq (by omega) (by omega)).mp z)), if_neg q2, if_neg q2, wq_some, fhK_l]
    · rw [if_neg q, if_neg q, wq_some, fhK_l]
  · rintro x rfl
    (try dsimp only)
    unfold f_X12_laysOwn_16
    rw [fhI_o (by decide), fhI_o (by decide), hrw.2.2.1, if_pos (nI_le (Nat.le_refl _) (by omega)), wq_some, fhK_r]
end
