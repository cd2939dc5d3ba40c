/-! HOW DEEP ALL KNOW -/
def bd' (W : gW) (l : List Nat) (D : Nat → Bool) (i v : Nat) : Bool := l.any (fun r => decide (W.vw r i = v) && !D r)
def dpN (W : gW) (l : List Nat) (D : Nat → Bool) (k r : Nat) : Bool := D r && (List.range k).all (fun i => !bd' W l D i (W.vw r i))
def dp (W : gW) (L : Nat → Bool) : Nat → Nat → Bool
  | 0 => fun r => L r && decide (kb W (rl W.N L) r = 2 ^ W.g - 1)
  | n + 1 => fun r => dpN W (rl W.N L) (dp W L n) W.g r
theorem bd_s (W : gW) (l : List Nat) (D : Nat → Bool) (x i v : Nat) : bd' W (l ++ [x]) D i v = (bd' W l D i v || (decide (W.vw x i = v) && !D x)) := by
  unfold bd'
  rw [List.any_append]
  simp
theorem dpN_s (W : gW) (l : List Nat) (D : Nat → Bool) (k r : Nat) : dpN W l D (k + 1) r = (dpN W l D k r && !bd' W l D k (W.vw r k)) := by
  unfold dpN
  rw [List.range_succ, List.all_append]
  simp [Bool.and_assoc]
theorem dpN_0 (W : gW) (l : List Nat) (D : Nat → Bool) (r : Nat) : dpN W l D 0 r = D r := by
  unfold dpN
  simp
theorem bd_no {W : gW} {l : List Nat} {D : Nat → Bool} {i v : Nat} (h : ∀ r ∈ l, W.vw r i ≠ v) : bd' W l D i v = false := by
  unfold bd'
  rw [List.any_eq_false]
  intro r hr z
  rw [Bool.and_eq_true, decide_eq_true_iff] at z
  exact h r hr z.1
theorem dp_L {W : gW} {L : Nat → Bool} : ∀ n r, dp W L n r = true → L r = true := by
  intro n
  induction n with
  | zero =>
    intro r h
    have h : (L r && decide (kb W (rl W.N L) r = 2 ^ W.g - 1)) = true := h
    rw [Bool.and_eq_true] at h
    exact h.1
  | succ n ih =>
    intro r h
    have h : dpN W (rl W.N L) (dp W L n) W.g r = true := h
    unfold dpN at h
    rw [Bool.and_eq_true] at h
    exact ih r h.1
def bI (b : Bool) : Int32 := nI (if b = true then 1 else 0)
theorem bI_0 (b : Bool) : (bI b = 0) = (b = false) := by cases b <;> decide
theorem bI_1 (b : Bool) : (bI b = 1) = (b = true) := by cases b <;> decide
/-- the level that comes out -/
def lev9 (P : Nat → Bool) (v : Int32) : Prop := ∃ n, n ≤ 9 ∧ (∀ j, j < n → P j = true) ∧ (n = 9 ∨ P n = false) ∧ v = nI n
theorem lev9_u {P : Nat → Bool} {v w : Int32} (h1 : lev9 P v) (h2 : lev9 P w) : v = w := by
  obtain ⟨n, a1, a2, a3, a4⟩ := h1
  obtain ⟨m, b1, b2, b3, b4⟩ := h2
  have : n = m := by
    rcases Nat.lt_trichotomy n m with q | q | q
    · rcases a3 with z | z
      · omega
      · rw [b2 n q] at z; cases z
    · exact q
    · rcases b3 with z | z
      · omega
      · rw [a2 m q] at z; cases z
  rw [a4, b4, this]
section
variable {W : gW} {L : Nat → Bool} {w0 rd : Nat}
theorem c_deepen (hW : wOK W) {σ : fhM} (hrw : rwF W σ) (hz : psF σ) (hg : gmF W L w0 rd σ) {D : Nat → Bool} (hD : ∀ r, r ∈ rl W.N L → σ.1 65 r = bI (D r)) :
    wq (f_X4_deepen σ) (fun s => ∃ t u, s = fhU (fhU σ 67 u) 65 t ∧ ∀ r, r ∈ rl W.N L → t r = bI (dpN W (rl W.N L) D W.g r)) := by
  obtain ⟨h8, h9, h10, h73, h75⟩ := hg
  have hN10 := hW.2.1
  have hg5 := hW.1
  have hll := rl_len W.N L
  have hgl : ∀ k, k < (rl W.N L).length → (rl W.N L).getD k 0 < W.N := fun k hk => rl_lt _ (getD_mem hk)
  have mem : ∀ k, k < (rl W.N L).length → ∀ r, r ∈ (rl W.N L).take (k + 1) ↔ r ∈ (rl W.N L).take k ∨ r = (rl W.N L).getD k 0 := fun k hk r => by rw [take_s hk, List.mem_append, List.mem_singleton]
  unfold f_X4_deepen
  refine wq_for (R := fun k x => ∃ u, x = (nI k, fhU σ 67 u) ∧ ∀ r, r ∈ (rl W.N L).take k → u r = bI (D r)) 0 (rl W.N L).length (Nat.zero_le _) ?_ ?_ ⟨σ.1 67, by rw [fhU_id (fun _ => rfl)]; rfl, ?_⟩
  · rintro k x - hk ⟨u, rfl, hu⟩
    (try dsimp only)
    unfold f_X4_deepen_2
    have hx := hgl k hk
    rw [fhU_o (by decide), h8, if_neg (nI_ge hk (by omega)), cg72 (by omega), fhU_o (by decide), h73 k hk, cg64 (by omega), fhU_o (by decide), hD _ (getD_mem hk), cp66 (by omega), fhU_I, nI_1, wq_some, fhK_l]
    refine ⟨_, rfl, fun r hr => ?_⟩
    (try dsimp only)
    by_cases q : r = (rl W.N L).getD k 0
    · rw [if_pos q, q]
    · rw [if_neg q]; exact hu r (((mem k hk r).mp hr).elim id (fun z => absurd z q))
  · rintro x ⟨u, rfl, hu⟩
    (try dsimp only)
    unfold f_X4_deepen_2
    rw [List.take_length] at hu
    rw [fhU_o (by decide), h8, if_pos (nI_le (Nat.le_refl _) (by omega)), wq_map]
    refine wq_for (R := fun i x => ∃ u, x = (nI i, fhU σ 67 u) ∧ ∀ r, r ∈ rl W.N L → u r = bI (dpN W (rl W.N L) D i r)) 0 W.g (Nat.zero_le _) ?_ ?_ ⟨u, rfl, fun r hr => by rw [dpN_0]; exact hu r hr⟩
    · rintro i x - hi ⟨u, rfl, hu⟩
      (try dsimp only)
      unfold f_X4_deepen_43
      have hrw1 : ∀ u g, rwF W (fhU (fhU σ 67 u) 49 g) := fun u g => rwF_U (rwF_U hrw (by decide) (by decide) (by decide)) (by decide) (by decide) (by decide)
      rw [fhU_o (by decide), hrw.1, if_neg (nI_ge hi (by omega))]
      refine wq_for (R := fun k x => ∃ g, x = (nI k, fhU (fhU σ 67 u) 49 g) ∧ (∀ j, j < 1024 → g j = bI (bd' W ((rl W.N L).take k) D i j)) ∧ ∀ j, 1024 ≤ j → g j = σ.1 49 j) 0 (rl W.N L).length (Nat.zero_le _) ?_ ?_ ⟨(fhU σ 67 u).1 49, by rw [fhU_id (fun _ => rfl)]; rfl, fun j hj => by rw [fhU_o (by decide), hz j hj]; rfl, fun j _ => by rw [fhU_o (by decide)]⟩
      · rintro k x - hk ⟨g, rfl, g1, g2⟩
        (try dsimp only)
        unfold f_X4_deepen_56 f_X4_deepen_104
        have hx := hgl k hk
        have hv := hW.2.2.2.2.2.1 _ i hx
        rw [fhU_o (by decide), fhU_o (by decide), h8, if_neg (nI_ge hk (by omega)), cg72 (by omega), fhU_o (by decide), fhU_o (by decide), h73 k hk, cg64 (by omega), fhU_o (by decide), fhU_o (by decide), hD _ (getD_mem hk), c_viewOf hW (hrw1 u g) hx hi, cp48 (by omega), fhU_I, nI_1]
        simp only [bI_0]
        by_cases q : D ((rl W.N L).getD k 0) = false
        · rw [if_pos q, wq_some, fhK_l]
          refine ⟨_, rfl, fun j hj => ?_, fun j hj => ?_⟩
          · (try dsimp only)
            rw [take_s hk, bd_s]
            by_cases q2 : j = W.vw ((rl W.N L).getD k 0) i
            · rw [if_pos q2, decide_eq_true q2.symm, q]
              show (1 : Int32) = bI (_ || (true && !false))
              rw [show (true && !false) = true from rfl, Bool.or_true]
              rfl
            · rw [if_neg q2, decide_eq_false (fun z => q2 z.symm), Bool.false_and, Bool.or_false]
              exact g1 j hj
          · (try dsimp only)
            rw [if_neg (by omega)]
            exact g2 j hj
        · have qt : D ((rl W.N L).getD k 0) = true := by
            cases e : D ((rl W.N L).getD k 0) with
            | true => rfl
            | false => exact absurd e q
          rw [if_neg q, wq_some, fhK_l]
          refine ⟨g, rfl, fun j hj => ?_, g2⟩
          rw [take_s hk, bd_s, qt, show (!true) = false from rfl, Bool.and_false, Bool.or_false]
          exact g1 j hj
      · rintro x ⟨g, rfl, g1, g2⟩
        (try dsimp only)
        unfold f_X4_deepen_56
        rw [List.take_length] at g1
        rw [fhU_o (by decide), fhU_o (by decide), h8, if_pos (nI_le (Nat.le_refl _) (by omega)), wq_map]
        refine wq_for (R := fun k x => ∃ u2, x = (nI k, fhU (fhU σ 67 u2) 49 g) ∧ ∀ r, r ∈ rl W.N L → u2 r = bI (if r ∈ (rl W.N L).take k then dpN W (rl W.N L) D (i + 1) r else dpN W (rl W.N L) D i r)) 0 (rl W.N L).length (Nat.zero_le _) ?_ ?_ ⟨u, rfl, fun r hr => by rw [hu r hr, if_neg (by rw [List.take_zero]; exact fun z => (by cases z))]⟩
        · rintro k x - hk ⟨u2, rfl, v1⟩
          (try dsimp only)
          unfold f_X4_deepen_112 f_X4_deepen_160
          have hx := hgl k hk
          have hxm := getD_mem hk
          have hv := hW.2.2.2.2.2.1 _ i hx
          rw [fhU_o (by decide), fhU_o (by decide), h8, if_neg (nI_ge hk (by omega)), cg72 (by omega), fhU_o (by decide), fhU_o (by decide), h73 k hk, c_viewOf hW (hrw1 u2 g) hx hi, cg48 (by omega), fhU_e, g1 _ (by omega), cp66 (by omega), fhU_IO (by decide), fhU_I, nI_1]
          simp only [bI_0]
          by_cases q : bd' W (rl W.N L) D i (W.vw ((rl W.N L).getD k 0) i) = false
          · rw [if_pos q, wq_some, fhK_l]
            refine ⟨u2, rfl, fun r hr => ?_⟩
            rw [v1 r hr]
            by_cases qr : r = (rl W.N L).getD k 0
            · rw [if_pos ((mem k hk r).mpr (Or.inr qr)), qr, dpN_s, q, show (!false) = true from rfl, Bool.and_true]
              split <;> rfl
            · by_cases qt : r ∈ (rl W.N L).take k
              · rw [if_pos qt, if_pos ((mem k hk r).mpr (Or.inl qt))]
              · rw [if_neg qt, if_neg (fun z => ((mem k hk r).mp z).elim qt qr)]
          · have qt' : bd' W (rl W.N L) D i (W.vw ((rl W.N L).getD k 0) i) = true := by
              cases e : bd' W (rl W.N L) D i (W.vw ((rl W.N L).getD k 0) i) with
              | true => rfl
              | false => exact absurd e q
            rw [if_neg q, wq_some, fhK_l]
            refine ⟨_, rfl, fun r hr => ?_⟩
            (try dsimp only)
            by_cases qr : r = (rl W.N L).getD k 0
            · rw [if_pos qr, if_pos ((mem k hk r).mpr (Or.inr qr)), qr, dpN_s, qt', show (!true) = false from rfl, Bool.and_false]
              rfl
            · rw [if_neg qr, v1 r hr]
              by_cases qt : r ∈ (rl W.N L).take k
              · rw [if_pos qt, if_pos ((mem k hk r).mpr (Or.inl qt))]
              · rw [if_neg qt, if_neg (fun z => ((mem k hk r).mp z).elim qt qr)]
        · rintro x ⟨u2, rfl, v1⟩
          (try dsimp only)
          unfold f_X4_deepen_112
          rw [List.take_length] at v1
          rw [fhU_o (by decide), fhU_o (by decide), h8, if_pos (nI_le (Nat.le_refl _) (by omega)), wq_map]
          refine wq_for (R := fun k x => ∃ g3, x = (nI k, fhU (fhU σ 67 u2) 49 g3) ∧ (∀ j, (∃ r ∈ (rl W.N L).take k, W.vw r i = j) → g3 j = 0) ∧ ∀ j, ¬ (∃ r ∈ (rl W.N L).take k, W.vw r i = j) → g3 j = g j) 0 (rl W.N L).length (Nat.zero_le _) ?_ ?_ ⟨g, rfl, fun j hj => ?_, fun j _ => rfl⟩
          · rintro k x - hk ⟨g3, rfl, w1, w2⟩
            (try dsimp only)
            unfold f_X4_deepen_168
            have hx := hgl k hk
            have hv := hW.2.2.2.2.2.1 _ i hx
            rw [fhU_o (by decide), fhU_o (by decide), h8, if_neg (nI_ge hk (by omega)), cg72 (by omega), fhU_o (by decide), fhU_o (by decide), h73 k hk, c_viewOf hW (hrw1 u2 g3) hx hi, cp48 (by omega), fhU_I, nI_1, wq_some, fhK_l]
            refine ⟨_, rfl, fun j hj => ?_, fun j hj => ?_⟩
            · (try dsimp only)
              by_cases q : j = W.vw ((rl W.N L).getD k 0) i
              · rw [if_pos q]
              · rw [if_neg q]
                obtain ⟨r, hr, hrj⟩ := hj
                refine w1 j ⟨r, ((mem k hk r).mp hr).elim id (fun z => ?_), hrj⟩
                rw [z] at hrj
                exact absurd hrj.symm q
            · (try dsimp only)
              rw [if_neg (fun z => hj ⟨_, (mem k hk _).mpr (Or.inr rfl), z.symm⟩)]
              exact w2 j (fun ⟨r, hr, hrj⟩ => hj ⟨r, (mem k hk r).mpr (Or.inl hr), hrj⟩)
          · rintro x ⟨g3, rfl, w1, w2⟩
            (try dsimp only)
            unfold f_X4_deepen_168
            rw [List.take_length] at w1 w2
            rw [fhU_o (by decide), fhU_o (by decide), h8, if_pos (nI_le (Nat.le_refl _) (by omega)), nI_1, wq_some, fhK_r, fhK_r, fhK_r, fhK_l]
            refine ⟨u2, ?_, fun r hr => by rw [v1 r hr, if_pos hr]⟩
            rw [fhU_id (fun j => ?_)]
            rw [fhU_o (by decide)]
            by_cases q : ∃ r ∈ rl W.N L, W.vw r i = j
            · rw [w1 j q]
              obtain ⟨r, hr, hrj⟩ := q
              have := hW.2.2.2.2.2.1 r i (rl_lt r hr)
              exact (hz j (by omega)).symm
            · rw [w2 j q]
              rcases Nat.lt_or_ge j 1024 with hj | hj
              · rw [g1 j hj, hz j hj, bd_no (fun r hr z => q ⟨r, hr, z⟩)]
                rfl
              · exact g2 j hj
          · obtain ⟨r, hr, _⟩ := hj
            rw [List.take_zero] at hr
            cases hr
    · rintro x ⟨u, rfl, hu⟩
      (try dsimp only)
      unfold f_X4_deepen_43
      rw [fhU_o (by decide), hrw.1, if_pos (nI_le (Nat.le_refl _) (by omega)), wq_map]
      refine wq_for (R := fun k x => ∃ t, x = (nI k, fhU (fhU σ 67 u) 65 t) ∧ ∀ r, r ∈ (rl W.N L).take k → t r = bI (dpN W (rl W.N L) D W.g r)) 0 (rl W.N L).length (Nat.zero_le _) ?_ ?_ ⟨(fhU σ 67 u).1 65, by rw [fhU_id (fun _ => rfl)]; rfl, ?_⟩
      · rintro k x - hk ⟨t, rfl, ht⟩
        (try dsimp only)
        unfold f_X4_deepen_217
        have hx := hgl k hk
        rw [fhU_o (by decide), fhU_o (by decide), h8, if_neg (nI_ge hk (by omega)), cg72 (by omega), fhU_o (by decide), fhU_o (by decide), h73 k hk, cg66 (by omega), fhU_o (by decide), fhU_e, hu _ (getD_mem hk), cp64 (by omega), fhU_I, nI_1, wq_some, fhK_l]
        refine ⟨_, rfl, fun r hr => ?_⟩
        (try dsimp only)
        by_cases q : r = (rl W.N L).getD k 0
        · rw [if_pos q, q]
        · rw [if_neg q]; exact ht r (((mem k hk r).mp hr).elim id (fun z => absurd z q))
      · rintro x ⟨t, rfl, ht⟩
        (try dsimp only)
        unfold f_X4_deepen_217
        rw [List.take_length] at ht
        rw [fhU_o (by decide), fhU_o (by decide), h8, if_pos (nI_le (Nat.le_refl _) (by omega)), wq_some, fhK_r, fhK_r, fhK_r]
        exact ⟨t, u, rfl, ht⟩
      · intro r hr
        rw [List.take_zero] at hr
        cases hr
  · intro r hr
    rw [List.take_zero] at hr
    cases hr
theorem c_depth (hW : wOK W) {σ : fhM} (hrw : rwF W σ) (hz : psF σ) (hg : gmF W L w0 rd σ) (hw0 : w0 ∈ rl W.N L) : wq (f_X4_depth σ) (fun r => lev9 (fun n => dp W L n w0) r.1 ∧ ∃ t u, r.2 = fhU (fhU σ 67 u) 65 t) := by
  have hg' := hg
  obtain ⟨h8, h9, h10, h73, h75⟩ := hg'
  have hN10 := hW.2.1
  have hg5 := hW.1
  have hll := rl_len W.N L
  have hwN := rl_lt _ hw0
  have mem : ∀ k, k < (rl W.N L).length → ∀ r, r ∈ (rl W.N L).take (k + 1) ↔ r ∈ (rl W.N L).take k ∨ r = (rl W.N L).getD k 0 := fun k hk r => by rw [take_s hk, List.mem_append, List.mem_singleton]
  have h2p : 2 ^ W.g ≤ 2 ^ 5 := Nat.pow_le_pow_right (by decide) hg5
  unfold f_X4_depth
  rw [hrw.1, ph_shl1 (by omega), nI_dec (Nat.two_pow_pos _), wq_let]
  refine wq_for (R := fun k x => ∃ t, x = (nI k, fhU σ 65 t) ∧ ∀ r, r ∈ (rl W.N L).take k → t r = bI (dp W L 0 r)) 0 (rl W.N L).length (Nat.zero_le _) ?_ ?_ ⟨σ.1 65, by rw [fhU_id (fun _ => rfl)]; rfl, ?_⟩
  · rintro k x - hk ⟨t, rfl, ht⟩
    (try dsimp only)
    unfold f_X4_depth_14 f_X4_depth_53
    have hxm := getD_mem hk
    have hx := rl_lt _ hxm
    have hkb := kb_lt hW (rl W.N L) ((rl W.N L).getD k 0)
    rw [fhU_o (by decide), h8, if_neg (nI_ge hk (by omega)), cg72 (by omega), fhU_o (by decide), h73 k hk, cg74 (by omega), fhU_o (by decide), h75 _ hxm, cp64 (by omega), fhU_I, nI_1, wq_some, fhK_l]
    refine ⟨_, rfl, fun r hr => ?_⟩
    (try dsimp only)
    by_cases q : r = (rl W.N L).getD k 0
    · rw [if_pos q, q]
      show _ = bI (L ((rl W.N L).getD k 0) && decide (kb W (rl W.N L) ((rl W.N L).getD k 0) = 2 ^ W.g - 1))
      rw [(rl_mem.mp hxm).2, Bool.true_and]
      by_cases q2 : kb W (rl W.N L) ((rl W.N L).getD k 0) = 2 ^ W.g - 1
      · rw [if_pos (by rw [q2]), decide_eq_true q2]; rfl
      · rw [if_neg (fun z => q2 ((nI_eq (by omega) (by omega)).mp z)), decide_eq_false q2]; rfl
    · rw [if_neg q]; exact ht r (((mem k hk r).mp hr).elim id (fun z => absurd z q))
  · rintro x ⟨t, rfl, ht⟩
    (try dsimp only)
    unfold f_X4_depth_14
    rw [List.take_length] at ht
    rw [fhU_o (by decide), h8, if_pos (nI_le (Nat.le_refl _) (by omega)), wq_map]
    refine wq_for (R := fun n x => ∃ t u, x = (nI n, fhU (fhU σ 67 u) 65 t) ∧ (∀ r, r ∈ rl W.N L → t r = bI (dp W L n r)) ∧ ∀ j, j < n → dp W L j w0 = true) 0 9 (Nat.zero_le _) ?_ ?_ ⟨t, σ.1 67, by rw [fhU_id (σ := σ) (fun _ => rfl)]; rfl, ht, fun j hj => absurd hj (Nat.not_lt_zero _)⟩
    · rintro n x - hn ⟨t, u, rfl, ht, hj⟩
      (try dsimp only)
      unfold f_X4_depth_64
      rw [if_neg (show ¬ (9 : Int32) ≤ nI n from nI_ge (b := 9) hn (by decide)), fhU_o (by decide), fhU_o (by decide), h9, cg64 (by omega), fhU_e, ht w0 hw0]
      simp only [bI_0]
      by_cases q : dp W L n w0 = false
      · rw [if_pos q, wq_some, fhK_r, fhK_r]
        exact ⟨⟨n, by omega, hj, Or.inr q, rfl⟩, t, u, rfl⟩
      · rw [if_neg q, wq_bind]
        have hrw1 : rwF W (fhU (fhU σ 67 u) 65 t) := rwF_U (rwF_U hrw (by decide) (by decide) (by decide)) (by decide) (by decide) (by decide)
        have hg1 : gmF W L w0 rd (fhU (fhU σ 67 u) 65 t) := ⟨by rw [fhU_o (by decide), fhU_o (by decide)]; exact h8, by rw [fhU_o (by decide), fhU_o (by decide)]; exact h9, by rw [fhU_o (by decide), fhU_o (by decide)]; exact h10, fun k hk => by rw [fhU_o (by decide), fhU_o (by decide)]; exact h73 k hk, fun r hr => by rw [fhU_o (by decide), fhU_o (by decide)]; exact h75 r hr⟩
        refine wq_mono (c_deepen hW hrw1 (fun j hj => by rw [fhU_o (by decide), fhU_o (by decide)]; exact hz j hj) hg1 (D := dp W L n) (fun r hr => by rw [fhU_e]; exact ht r hr)) (fun s z => ?_)
        obtain ⟨t2, u2, rfl, z2⟩ := z
        rw [wq_some, fhK_l, nI_1]
        refine ⟨t2, u2, ?_, z2, fun j hj2 => ?_⟩
        · rw [fhU_UO (σ := fhU σ 67 u) (t := 65) (a := 67) (by decide), fhU_U, fhU_U]
        · by_cases qj : j = n
          · rw [qj]
            cases e : dp W L n w0 with
            | true => rfl
            | false => exact absurd e q
          · exact hj j (by omega)
    · rintro x ⟨t, u, rfl, ht, hj⟩
      (try dsimp only)
      unfold f_X4_depth_64
      rw [if_pos (show (9 : Int32) ≤ nI 9 by decide), wq_some, fhK_r, fhK_r]
      exact ⟨⟨9, Nat.le_refl _, hj, Or.inl rfl, rfl⟩, t, u, rfl⟩
  · intro r hr
    rw [List.take_zero] at hr
    cases hr
end
