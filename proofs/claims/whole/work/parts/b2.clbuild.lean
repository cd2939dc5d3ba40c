/-! THE CLASS BUILDS ITS ROWS -/
theorem seen_eq : ∀ g, g ≤ 5 → ∀ i, i < 5 → ∀ b, b < 32 → ((nI (2 ^ g) - (1 : Int32)) &&& (nI (2 ^ i) ^^^ (-1 : Int32))) &&& (nI b ^^^ (-1 : Int32)) = nI (smk i b &&& (2 ^ g - 1)) := by decide +kernel
def tbF (W : gW) (n : Nat) (σ : fhM) : Prop :=
  σ.1 39 5 = nI W.m ∧ σ.1 39 9 = nI W.g ∧ σ.1 39 10 = nI W.F ∧ σ.1 39 11 = nI W.N ∧ σ.1 39 12 = nI (rl n W.al).length ∧ (∀ k, k < W.g → σ.1 41 k = nI (W.m ^ k)) ∧ (∀ i, i < W.g → σ.1 51 i = nI (W.sb i)) ∧
  (∀ r i, r < n → i < W.g → σ.1 43 (r * 5 + i) = nI (W.mk r i)) ∧ (∀ r i, r < n → i < W.g → σ.1 45 (r * 5 + i) = nI (W.vw r i)) ∧ (∀ r, r < 1024 → σ.1 47 r = nI (if r < n ∧ W.al r = true then 1 else 0)) ∧ (∀ r, r < n → W.al r = true → σ.1 53 r = nI (W.tr r)) ∧ (∀ k, k < (rl n W.al).length → σ.1 55 k = nI ((rl n W.al).getD k 0))
def bD (t : Nat) : Prop := t = 39 ∨ t = 41 ∨ t = 43 ∨ t = 45 ∨ t = 47 ∨ t = 51 ∨ t = 53 ∨ t = 55 ∨ t = 10 ∨ t = 12 ∨ t = 14
theorem c_views {p : fhPS} (hm : 2 ≤ p.m ∧ p.m ≤ 4) (hg : p.gs.length ≤ 5) {row : Nat} (hrow : row < 1024) {σ : fhM} (h5 : σ.1 39 5 = nI p.m) (h9 : σ.1 39 9 = nI p.gs.length) (hw : ∀ k, k < p.gs.length → σ.1 41 k = nI (p.m ^ k)) (hs : ∀ i, i < p.gs.length → σ.1 51 i = nI (sbP p i)) :
    wq (f_X9_fillViews (nI row) σ) (fun s => ∃ t1 t2, s = fhU (fhU σ 43 t1) 45 t2 ∧ (∀ i, i < p.gs.length → t1 (row * 5 + i) = nI (mkr p.m row i)) ∧ (∀ j, ¬ (row * 5 ≤ j ∧ j < row * 5 + 5) → t1 j = σ.1 43 j) ∧ (∀ i, i < p.gs.length → t2 (row * 5 + i) = nI (vwP p row i)) ∧ ∀ j, ¬ (row * 5 ≤ j ∧ j < row * 5 + 5) → t2 j = σ.1 45 j) := by
  have hpw : ∀ k, k ≤ p.gs.length → p.m ^ k ≤ 1024 := fun k hk => pow_le hm.2 (by omega)
  unfold f_X9_fillViews
  refine wq_for (R := fun k x => ∃ t1, x = (nI (row / p.m ^ k), nI k, fhU σ 43 t1) ∧ (∀ i, i < k → t1 (row * 5 + i) = nI (mkr p.m row i)) ∧ ∀ j, ¬ (row * 5 ≤ j ∧ j < row * 5 + 5) → t1 j = σ.1 43 j) 0 p.gs.length (Nat.zero_le _) ?_ ?_ ⟨σ.1 43, ?_, fun i hi => (by cases hi), fun j _ => rfl⟩
  · rintro k x - hk ⟨t1, rfl, ht, ho⟩
    (try dsimp only)
    unfold f_X9_fillViews_4
    have hq : row / p.m ^ k ≤ row := Nat.div_le_self _ _
    have ex : fhrem (nI (row / p.m ^ k)) (nI p.m) = nI (row / p.m ^ k % p.m) := ph_rem (by omega) (by omega) (by omega)
    rw [fhU_o (by decide), fhU_o (by decide), h9, h5, if_neg (nI_ge hk (by omega)), if_neg (nI_nle (by omega) (by omega)), ph_nz (by omega) (by omega), if_pos (show (true && true) = true from rfl), if_pos (show (true && true) = true from rfl), ex, pk_div (by omega) (by omega) (by omega), Nat.div_div_eq_div_mul, ← Nat.pow_succ, show (5 : Int32) = nI 5 from rfl, pk_mul, nI_add, cp42 (by omega), fhU_I, nI_1, wq_some, fhK_l]
    refine ⟨_, rfl, fun i hi => ?_, fun j hj => ?_⟩
    · (try dsimp only)
      by_cases q : i = k
      · rw [if_pos (by omega), q]; rfl
      · rw [if_neg (by omega)]; exact ht i (by omega)
    · (try dsimp only)
      rw [if_neg (by omega)]
      exact ho j hj
  · rintro x ⟨t1, rfl, ht, ho⟩
    (try dsimp only)
    unfold f_X9_fillViews_4
    rw [fhU_o (by decide), h9, if_pos (nI_le (Nat.le_refl _) (by omega)), wq_map]
    unfold f_X9_fillViews_50
    refine wq_for (R := fun i x => ∃ t2, x = (nI i, fhU (fhU σ 43 t1) 45 t2) ∧ (∀ a, a < i → t2 (row * 5 + a) = nI (vwP p row a)) ∧ ∀ j, ¬ (row * 5 ≤ j ∧ j < row * 5 + 5) → t2 j = σ.1 45 j) 0 p.gs.length (Nat.zero_le _) ?_ ?_ ⟨(fhU σ 43 t1).1 45, ?_, fun i hi => (by cases hi), fun j _ => by rw [fhU_o (by decide)]⟩
    · rintro i x - hi ⟨t2, rfl, ht2, ho2⟩
      (try dsimp only)
      unfold f_X9_fillViews_52
      rw [fhU_o (by decide), fhU_o (by decide), h9, if_neg (nI_ge hi (by omega))]
      refine wq_for (R := fun k x => x = (nI (wsum p.m (vws p row i k)), nI k)) 0 p.gs.length (Nat.zero_le _) ?_ ?_ rfl
      · rintro k x - hk rfl
        (try dsimp only)
        unfold f_X9_fillViews_66 f_X9_fillViews_113 f_X9_markOf
        have hb := sbP_lt p i
        have h2p : 2 ^ p.gs.length ≤ 2 ^ 5 := Nat.pow_le_pow_right (by decide) hg
        have hmk : mkr p.m row k < p.m := Nat.mod_lt _ (by omega)
        have hwk := hpw k (by omega)
        rw [fhU_o (by decide), fhU_o (by decide), h9, if_neg (nI_ge hk (by omega)), cg50 (by omega), fhU_o (by decide), fhU_o (by decide), hs i hi, show (5 : Int32) = nI 5 from rfl, pk_mul, nI_add, cg42 (by omega), fhU_o (by decide), fhU_e, ht k hk, cg40 (by omega), fhU_o (by decide), fhU_o (by decide), hw k hk, pk_mul, nI_add, nI_1, wq_some, fhK_l, vws_s, wsum_app, vws_len]
        by_cases q : (sbP p i).testBit k = true
        · rw [if_neg (fun z => by rw [ph_bit0 (by omega) (by omega), q] at z; cases z), if_pos q]
        · rw [if_pos ((ph_bit0 (by omega) (by omega)).mpr (by cases e : (sbP p i).testBit k with | true => exact absurd e q | false => rfl)), if_neg q, Nat.zero_mul]
          rfl
      · rintro x rfl
        (try dsimp only)
        unfold f_X9_fillViews_66
        rw [fhU_o (by decide), fhU_o (by decide), h9, if_pos (nI_le (Nat.le_refl _) (by omega)), show (5 : Int32) = nI 5 from rfl, pk_mul, nI_add, cp44 (by omega), fhU_I, nI_1, wq_some, fhK_r, fhK_l]
        refine ⟨_, rfl, fun a ha => ?_, fun j hj => ?_⟩
        · (try dsimp only)
          by_cases q : a = i
          · rw [if_pos (by omega), q]; rfl
          · rw [if_neg (by omega)]; exact ht2 a (by omega)
        · (try dsimp only)
          rw [if_neg (by omega)]
          exact ho2 j hj
    · rintro x ⟨t2, rfl, ht2, ho2⟩
      (try dsimp only)
      unfold f_X9_fillViews_52
      rw [fhU_o (by decide), fhU_o (by decide), h9, if_pos (nI_le (Nat.le_refl _) (by omega)), wq_some, fhK_r, fhK_r]
      exact ⟨t1, t2, rfl, ht, ho, ht2, ho2⟩
    · rw [fhU_id (fun _ => rfl)]
      rfl
  · rw [Nat.pow_zero, Nat.div_one, fhU_id (fun _ => rfl)]
    rfl
theorem c_build {T : tT} {k P : Nat} (hP : fhiP P = true) {p : fhPS} {out : gC} {σ : fhM} (ho : sOK T p k) (hr : cRp P p out σ) : wq (f_X9_build P σ) (fun s => tbF (wOf p) (wOf p).N s ∧ fpl bD σ s) := by
  have hp := ph_P hP
  have ho' := ho
  obtain ⟨o1, o2, o3, o4, o5, o6, o7, o8, o9, o10, o11, o12, o13⟩ := ho'
  obtain ⟨w1, w2⟩ := sOK_wrn ho
  have hlen := nl_len p
  have hpw : ∀ k, k ≤ p.gs.length → p.m ^ k ≤ 1024 := fun k hk => pow_le o4 (by omega)
  have hbl := hr.2.2.2.2.2.2.2.2.1
  unfold f_X9_build
  have s0 : (fcP (fhI (fhI (fhI σ 39 5 (σ.1 P 9)) 39 9 ((fhI σ 39 5 (σ.1 P 9)).1 P 10)) 39 10 ((fhI (fhI σ 39 5 (σ.1 P 9)) 39 9 ((fhI σ 39 5 (σ.1 P 9)).1 P 10)).1 P 12)) 40 (0 : Int32) (1 : Int32)) = fhI (fhI (fhI (fhI σ 39 5 (nI p.m)) 39 9 (nI p.gs.length)) 39 10 (nI p.fa.length)) 41 0 (nI 1) := by
    have e1 : (fhI σ 39 5 (nI p.m)).1 P 10 = nI p.gs.length := by rw [fhI_o (by omega), hr.2.2.1.1, hlen]
    have e2 : (fhI (fhI σ 39 5 (nI p.m)) 39 9 (nI p.gs.length)).1 P 12 = nI p.fa.length := by rw [fhI_o (by omega), fhI_o (by omega)]; exact hr.2.2.2.2.1
    rw [hr.2.1, e1, e2, ph_0, cp40 (by decide)]
    rfl
  rw [s0]
  have f0 : fpl bD σ (fhI (fhI (fhI (fhI σ 39 5 (nI p.m)) 39 9 (nI p.gs.length)) 39 10 (nI p.fa.length)) 41 0 (nI 1)) := by
    refine fpl_I (fpl_I (fpl_I (fpl_I fpl_rf ?_) ?_) ?_) ?_
    all_goals (unfold bD; omega)
  have a5 : (fhI (fhI (fhI (fhI σ 39 5 (nI p.m)) 39 9 (nI p.gs.length)) 39 10 (nI p.fa.length)) 41 0 (nI 1)).1 39 5 = nI p.m := by simp (disch := omega) only [fhI_e, fhI_o, fhI_s]
  have a9 : (fhI (fhI (fhI (fhI σ 39 5 (nI p.m)) 39 9 (nI p.gs.length)) 39 10 (nI p.fa.length)) 41 0 (nI 1)).1 39 9 = nI p.gs.length := by simp (disch := omega) only [fhI_e, fhI_o, fhI_s]
  have a10 : (fhI (fhI (fhI (fhI σ 39 5 (nI p.m)) 39 9 (nI p.gs.length)) 39 10 (nI p.fa.length)) 41 0 (nI 1)).1 39 10 = nI p.fa.length := by simp (disch := omega) only [fhI_e, fhI_o, fhI_s]
  have a41 : (fhI (fhI (fhI (fhI σ 39 5 (nI p.m)) 39 9 (nI p.gs.length)) 39 10 (nI p.fa.length)) 41 0 (nI 1)).1 41 0 = nI 1 := by simp (disch := omega) only [fhI_e, fhI_o, fhI_s]
  generalize (fhI (fhI (fhI (fhI σ 39 5 (nI p.m)) 39 9 (nI p.gs.length)) 39 10 (nI p.fa.length)) 41 0 (nI 1)) = σ0 at *
  refine wq_for (R := fun i x => ∃ t1 t2, x = (nI i, fhU (fhU σ0 41 t1) 51 t2) ∧ (∀ k, k ≤ i → t1 k = nI (p.m ^ k)) ∧ ∀ a, a < i → t2 a = nI (sbP p a)) 0 p.gs.length (Nat.zero_le _) ?_ ?_ ⟨σ0.1 41, (fhU σ0 41 (σ0.1 41)).1 51, ?_, fun k hk => ?_, fun a ha => by cases ha⟩
  · rintro i x - hi ⟨t1, t2, rfl, h1, h2⟩
    (try dsimp only)
    unfold f_X9_build_35
    have hw : fcP (fhU (fhU σ0 41 t1) 51 t2) 40 (nI i + 1) (fcG (fhU (fhU σ0 41 t1) 51 t2) 40 (nI i) * (fhU (fhU σ0 41 t1) 51 t2).1 39 5) = fhU (fhU σ0 41 (fun j => if j = i + 1 then nI (p.m ^ (i + 1)) else t1 j)) 51 t2 := by
      rw [cg40 (by omega), fhU_o (by decide), fhU_e, h1 i (Nat.le_refl _), fhU_o (by decide), fhU_o (by decide), a5, pk_mul, nI_1, cp40 (by omega), fhU_IO (by decide), fhU_I, ← Nat.pow_succ]
    rw [fhU_o (by decide), fhU_o (by decide), a9, if_neg (nI_ge hi (by omega)), hw]
    have hse : f_X7_seenBy P (nI i) (fhU (fhU σ0 41 (fun j => if j = i + 1 then nI (p.m ^ (i + 1)) else t1 j)) 51 t2) = nI (sbP p i) := by
      have e10 : (fhU (fhU σ0 41 (fun j => if j = i + 1 then nI (p.m ^ (i + 1)) else t1 j)) 51 t2).1 P 10 = nI p.gs.length := by
        rw [fhU_o (by omega), fhU_o (by omega), (f0.1 P 10 (by unfold bD; omega)).1, hr.2.2.1.1, hlen]
      have eb : fcG (fhU (fhU σ0 41 (fun j => if j = i + 1 then nI (p.m ^ (i + 1)) else t1 j)) 51 t2) (P + 4) (nI i) = nI (p.bl i) := by
        have hN : fcL (P + 4) = 5 := by rcases hp with rfl | rfl <;> rfl
        rw [fcG_at hN (by omega) (by omega), fhU_o (by omega), fhU_o (by omega), (f0.1 _ i (by unfold bD; omega)).1]
        exact hbl i (by omega)
      unfold f_X7_seenBy
      rw [e10, eb, ph_shl1 (by omega), ph_shl1 (by omega), seen_eq _ o5 i (by omega) _ (o7 i)]
      rfl
    rw [hse, cp50 (by omega), fhU_I, nI_1, wq_some, fhK_l]
    refine ⟨_, _, rfl, fun k hk => ?_, fun a ha => ?_⟩
    · (try dsimp only)
      by_cases q : k = i + 1
      · rw [if_pos q, q]
      · rw [if_neg q]; exact h1 k (by omega)
    · (try dsimp only)
      by_cases q : a = i
      · rw [if_pos q, q]
      · rw [if_neg q]; exact h2 a (by omega)
  · rintro x ⟨t1, t2, rfl, h1, h2⟩
    (try dsimp only)
    unfold f_X9_build_35
    have hcnt : f_J9_min_7cf53 (fcG (fhU (fhU σ0 41 t1) 51 t2) 40 (nI p.gs.length)) (1024 : Int32) (fhU (fhU σ0 41 t1) 51 t2) = nI (p.m ^ p.gs.length) := by
      unfold f_J9_min_7cf53
      rw [cg40 (by omega), fhU_o (by decide), fhU_e, h1 _ (Nat.le_refl _), if_neg (show ¬ (1024 : Int32) < nI (p.m ^ p.gs.length) from nI_nlt (a := 1024) w2 (by omega))]
    rw [fhU_o (by decide), fhU_o (by decide), a9, if_pos (nI_le (Nat.le_refl _) (by omega)), hcnt, wq_map, fcW_U (t := 46) (N := 1024) rfl]
    have f1 : fpl bD σ (fhI (fhU (fhI (fhU (fhU σ0 41 t1) 51 t2) 39 11 (nI (p.m ^ p.gs.length))) (46 + 1) (fun j => if j < 1024 then 0 else (fhI (fhU (fhU σ0 41 t1) 51 t2) 39 11 (nI (p.m ^ p.gs.length))).1 (46 + 1) j)) 39 12 (0 : Int32)) := by
      refine fpl_I (fpl_U (fpl_I (fpl_U (fpl_U f0 ?_) ?_) ?_) ?_) ?_
      all_goals (unfold bD; omega)
    have tb0 : tbF (wOf p) 0 (fhI (fhU (fhI (fhU (fhU σ0 41 t1) 51 t2) 39 11 (nI (p.m ^ p.gs.length))) (46 + 1) (fun j => if j < 1024 then 0 else (fhI (fhU (fhU σ0 41 t1) 51 t2) 39 11 (nI (p.m ^ p.gs.length))).1 (46 + 1) j)) 39 12 (0 : Int32)) := by
      refine ⟨?_, ?_, ?_, ?_, ?_, fun k hk => ?_, fun i hi => ?_, fun r i h => absurd h (Nat.not_lt_zero _), fun r i h => absurd h (Nat.not_lt_zero _), fun r hr => ?_, fun r h => absurd h (Nat.not_lt_zero _), fun k h => absurd h (Nat.not_lt_zero _)⟩
      · rw [fhI_s (by decide), fhU_o (by decide), fhI_s (by decide), fhU_o (by decide), fhU_o (by decide)]; exact a5
      · rw [fhI_s (by decide), fhU_o (by decide), fhI_s (by decide), fhU_o (by decide), fhU_o (by decide)]; exact a9
      · rw [fhI_s (by decide), fhU_o (by decide), fhI_s (by decide), fhU_o (by decide), fhU_o (by decide)]; exact a10
      · rw [fhI_s (by decide), fhU_o (by decide), fhI_e]; rfl
      · rw [fhI_e]; rfl
      · have hk : k < p.gs.length := hk
        rw [fhI_o (by decide), fhU_o (by decide), fhI_o (by decide), fhU_o (by decide), fhU_e]
        exact h1 k (by omega)
      · rw [fhI_o (by decide), fhU_o (by decide), fhI_o (by decide), fhU_e]
        exact h2 i hi
      · rw [fhI_o (by decide), fhU_e, if_pos hr, if_neg (fun z => absurd z.1 (Nat.not_lt_zero _))]
        rfl
    generalize (fhI (fhU (fhI (fhU (fhU σ0 41 t1) 51 t2) 39 11 (nI (p.m ^ p.gs.length))) (46 + 1) (fun j => if j < 1024 then 0 else (fhI (fhU (fhU σ0 41 t1) 51 t2) 39 11 (nI (p.m ^ p.gs.length))).1 (46 + 1) j)) 39 12 (0 : Int32)) = σ1 at *
    refine wq_for (R := fun r x => ∃ s, x = (nI r, s) ∧ tbF (wOf p) r s ∧ fpl bD σ s) 0 (p.m ^ p.gs.length) (Nat.zero_le _) ?_ ?_ ⟨σ1, rfl, tb0, f1⟩
    · rintro row x - hrow ⟨s, rfl, ht, hf⟩
      (try dsimp only)
      unfold f_X9_build_120
      obtain ⟨b5, b9, b10, b11, b12, b41, b51, b43, b45, b47, b53, b55⟩ := ht
      have hWN : (wOf p).N = p.m ^ p.gs.length := rfl
      rw [b11, hWN, if_neg (nI_ge hrow (by omega)), wq_bind]
      refine wq_mono (c_views ⟨o3, o4⟩ o5 (by omega) b5 b9 b41 b51) (fun s1 z => ?_)
      obtain ⟨u1, u2, rfl, z1, z2, z3, z4⟩ := z
      rw [fhU_o (by decide), fhU_o (by decide), fhU_o (by decide), fhU_o (by decide), b5, b9, wq_bind]
      refine wq_mono (c_fill ⟨o3, o4⟩ o5 (by omega) _) (fun s2 z => ?_)
      obtain ⟨t, rfl, hlv⟩ := z
      have hd : cdF P p (fhU (fhU (fhU s 43 u1) 45 u2) 12 t) := by
        refine cdF_fr (cdF_of hP hr o8 o9) (fun j => ?_) (fun a j h1 h2 => ?_)
        · rw [fhU_o (by omega), fhU_o (by omega), fhU_o (by omega), (hf.1 P j (by unfold bD; omega)).1]
        · rw [fcG_U (by omega), fcG_U (by omega), fcG_U (by omega)]
          unfold fcG
          rw [show s.1 (a + 1) (fhix j) = σ.1 (a + 1) (fhix j) from (hf.1 _ _ (by unfold bD; omega)).1]
      rw [wq_bind]
      refine wq_mono (c_rulesHold hP o5 hlv hd o8 (sOK_ev ho).1) (fun r z => ?_)
      obtain ⟨r1, r2⟩ := r
      obtain ⟨z5, hh, gg, z6⟩ := z
      dsimp only at z5 z6 ⊢
      subst z6
      have z5 : r1 = alw p row := z5
      have hal : (wOf p).al row = alw p row := by
        show (decide (row < p.m ^ p.gs.length) && alw p row) = alw p row
        rw [decide_eq_true hrow, Bool.true_and]
      have tail : ∀ hh gg, (∀ a j, a ≠ 43 → a ≠ 45 → a ≠ 12 → a ≠ 10 → a ≠ 14 → (vsX (fhU (fhU (fhU s 43 u1) 45 u2) 12 t) hh gg).1 a j = s.1 a j) ∧ (∀ j, (vsX (fhU (fhU (fhU s 43 u1) 45 u2) 12 t) hh gg).1 43 j = u1 j) ∧ (∀ j, (vsX (fhU (fhU (fhU s 43 u1) 45 u2) 12 t) hh gg).1 45 j = u2 j) ∧ fpl bD σ (vsX (fhU (fhU (fhU s 43 u1) 45 u2) 12 t) hh gg) := by
        intro hh gg
        refine ⟨fun a j h1 h2 h3 h4 h5 => ?_, fun j => ?_, fun j => ?_, ?_⟩
        · rw [vsX_o h5 h4, fhU_o h3, fhU_o h2, fhU_o h1]
        · rw [vsX_o (by decide) (by decide), fhU_o (by decide), fhU_o (by decide), fhU_e]
        · rw [vsX_o (by decide) (by decide), fhU_o (by decide), fhU_e]
        · refine fpl_X (fpl_U (fpl_U (fpl_U hf ?_) ?_) ?_) ?_ ?_
          all_goals (unfold bD; omega)
      have m43 : ∀ r i, r < row + 1 → i < p.gs.length → u1 (r * 5 + i) = nI ((wOf p).mk r i) := by
        intro r i h1 h2
        by_cases q : r = row
        · rw [q]; exact z1 i h2
        · rw [z2 _ (by omega)]; exact b43 r i (by omega) h2
      have m45 : ∀ r i, r < row + 1 → i < p.gs.length → u2 (r * 5 + i) = nI ((wOf p).vw r i) := by
        intro r i h1 h2
        by_cases q : r = row
        · rw [q]; exact z3 i h2
        · rw [z4 _ (by omega)]; exact b45 r i (by omega) h2
      have hcl := rl_len row (wOf p).al
      by_cases q : alw p row = true
      · rw [if_pos (by rw [z5]; exact q), wq_bind]
        refine wq_mono (c_truthBits hP o5 hlv hd o9 (sOK_ev ho).2 hh gg) (fun r z => ?_)
        obtain ⟨r1, r2⟩ := r
        obtain ⟨z7, hh2, gg2, z8⟩ := z
        dsimp only at z7 z8 ⊢
        subst z8
        obtain ⟨e1, e2, e3, e4⟩ := tail hh2 gg2
        generalize (vsX (fhU (fhU (fhU s 43 u1) 45 u2) 12 t) hh2 gg2) = s4 at *
        unfold f_X9_build_198
        rw [e1 39 12 (by decide) (by decide) (by decide) (by decide) (by decide), b12, z7, cp52 (by omega), cp46 (by omega), cp54 (by omega), nI_1, nI_1, wq_some, fhK_l]
        have hrl : rl (row + 1) (wOf p).al = rl row (wOf p).al ++ [row] := by rw [rl_s, hal, if_pos q]
        have hrll : (rl (row + 1) (wOf p).al).length = (rl row (wOf p).al).length + 1 := by rw [hrl, List.length_append, List.length_singleton]
        have e : ∀ a j, a ≠ 43 → a ≠ 45 → a ≠ 12 → a ≠ 10 → a ≠ 14 → a ≠ 53 → a ≠ 47 → a ≠ 55 → ¬ (a = 39 ∧ j = 12) → (fhI (fhI (fhI (fhI s4 53 row (nI (bitsN (p.fa.map (hol p.gs.length (lfR (rowm p.m p.gs.length row)) (lkR (rowm p.m p.gs.length row)))) 0))) 47 row (1 : Int32)) 55 (rl row (wOf p).al).length (nI row)) 39 12 (nI ((rl row (wOf p).al).length + 1))).1 a j = s.1 a j := by
          intro a j h1 h2 h3 h4 h5 h6 h7 h8 h9
          rw [fhI_r, if_neg h9, fhI_o h8, fhI_o h7, fhI_o h6]
          exact e1 a j h1 h2 h3 h4 h5
        refine ⟨_, rfl, ⟨?_, ?_, ?_, ?_, ?_, fun k hk => ?_, fun i hi => ?_, fun r i h1 h2 => ?_, fun r i h1 h2 => ?_, fun r hr => ?_, fun r h1 h2 => ?_, fun k hk => ?_⟩, ?_⟩
        · rw [e _ _ (by decide) (by decide) (by decide) (by decide) (by decide) (by decide) (by decide) (by decide) (by decide)]; exact b5
        · rw [e _ _ (by decide) (by decide) (by decide) (by decide) (by decide) (by decide) (by decide) (by decide) (by decide)]; exact b9
        · rw [e _ _ (by decide) (by decide) (by decide) (by decide) (by decide) (by decide) (by decide) (by decide) (by decide)]; exact b10
        · rw [e _ _ (by decide) (by decide) (by decide) (by decide) (by decide) (by decide) (by decide) (by decide) (by decide)]; exact b11
        · rw [fhI_e, hrll]
        · rw [e _ _ (by decide) (by decide) (by decide) (by decide) (by decide) (by decide) (by decide) (by decide) (by omega)]; exact b41 k hk
        · rw [e _ _ (by decide) (by decide) (by decide) (by decide) (by decide) (by decide) (by decide) (by decide) (by omega)]; exact b51 i hi
        · rw [fhI_o (by decide), fhI_o (by decide), fhI_o (by decide), fhI_o (by decide), e2]; exact m43 r i h1 h2
        · rw [fhI_o (by decide), fhI_o (by decide), fhI_o (by decide), fhI_o (by decide), e3]; exact m45 r i h1 h2
        · rw [fhI_o (by decide), fhI_o (by decide), fhI_r]
          by_cases qr : r = row
          · rw [if_pos ⟨rfl, qr⟩, if_pos ⟨by omega, by rw [qr, hal]; exact q⟩]
            rfl
          · rw [if_neg (fun z => qr z.2), fhI_o (by decide), e1 _ _ (by decide) (by decide) (by decide) (by decide) (by decide), b47 r hr]
            by_cases qa : r < row ∧ (wOf p).al r = true
            · rw [if_pos qa, if_pos ⟨by omega, qa.2⟩]
            · rw [if_neg qa, if_neg (fun z => qa ⟨by omega, z.2⟩)]
        · rw [fhI_o (by decide), fhI_o (by decide), fhI_o (by decide), fhI_r]
          by_cases qr : r = row
          · rw [if_pos ⟨rfl, qr⟩, qr]
            rfl
          · rw [if_neg (fun z => qr z.2), e1 _ _ (by decide) (by decide) (by decide) (by decide) (by decide)]
            exact b53 r (by omega) h2
        · rw [hrll] at hk
          rw [fhI_o (by decide), fhI_r, hrl, List.getD_eq_getElem?_getD]
          by_cases qk : k = (rl row (wOf p).al).length
          · rw [if_pos ⟨rfl, qk⟩, qk, List.getElem?_append_right (Nat.le_refl _), Nat.sub_self]
            rfl
          · rw [if_neg (fun z => qk z.2), fhI_o (by decide), fhI_o (by decide), e1 _ _ (by decide) (by decide) (by decide) (by decide) (by decide), b55 k (by omega), List.getElem?_append_left (by omega), List.getD_eq_getElem?_getD]
        · refine fpl_I (fpl_I (fpl_I (fpl_I e4 ?_) ?_) ?_) ?_
          all_goals (unfold bD; omega)
      · rw [if_neg (by rw [z5]; exact q)]
        obtain ⟨e1, e2, e3, e4⟩ := tail hh gg
        generalize (vsX (fhU (fhU (fhU s 43 u1) 45 u2) 12 t) hh gg) = s4 at *
        unfold f_X9_build_198
        rw [nI_1, wq_some, fhK_l]
        have hrl : rl (row + 1) (wOf p).al = rl row (wOf p).al := by rw [rl_s, hal, if_neg q]
        refine ⟨_, rfl, ⟨?_, ?_, ?_, ?_, ?_, fun k hk => ?_, fun i hi => ?_, fun r i h1 h2 => ?_, fun r i h1 h2 => ?_, fun r hr => ?_, fun r h1 h2 => ?_, fun k hk => ?_⟩, e4⟩
        · rw [e1 _ _ (by decide) (by decide) (by decide) (by decide) (by decide)]; exact b5
        · rw [e1 _ _ (by decide) (by decide) (by decide) (by decide) (by decide)]; exact b9
        · rw [e1 _ _ (by decide) (by decide) (by decide) (by decide) (by decide)]; exact b10
        · rw [e1 _ _ (by decide) (by decide) (by decide) (by decide) (by decide)]; exact b11
        · rw [e1 _ _ (by decide) (by decide) (by decide) (by decide) (by decide), hrl]; exact b12
        · rw [e1 _ _ (by decide) (by decide) (by decide) (by decide) (by decide)]; exact b41 k hk
        · rw [e1 _ _ (by decide) (by decide) (by decide) (by decide) (by decide)]; exact b51 i hi
        · rw [e2]; exact m43 r i h1 h2
        · rw [e3]; exact m45 r i h1 h2
        · rw [e1 _ _ (by decide) (by decide) (by decide) (by decide) (by decide), b47 r hr]
          by_cases qa : r < row ∧ (wOf p).al r = true
          · rw [if_pos qa, if_pos ⟨by omega, qa.2⟩]
          · rw [if_neg qa, if_neg (fun z => by
              by_cases qr : r = row
              · rw [qr, hal] at z; exact q z.2
              · exact qa ⟨by omega, z.2⟩)]
        · have hrr : r ≠ row := by rintro rfl; rw [hal] at h2; exact q h2
          rw [e1 _ _ (by decide) (by decide) (by decide) (by decide) (by decide)]
          exact b53 r (by omega) h2
        · rw [hrl] at hk ⊢
          rw [e1 _ _ (by decide) (by decide) (by decide) (by decide) (by decide)]
          exact b55 k hk
    · rintro x ⟨s, rfl, ht, hf⟩
      (try dsimp only)
      unfold f_X9_build_120
      rw [ht.2.2.2.1, show (wOf p).N = p.m ^ p.gs.length from rfl, if_pos (nI_le (Nat.le_refl _) (by omega)), wq_some, fhK_r]
      exact ⟨ht, hf⟩
  · rw [fhU_id (fun _ => rfl), fhU_id (fun _ => rfl)]
    rfl
  · rw [show k = 0 by omega, Nat.pow_zero]
    exact a41
