/-! THE REFERENCE'S GAME -/
def gmM (W : gW) (L : Nat → Bool) (w0 rd : Nat) (σ : fhM) : Prop := lfM L σ ∧ σ.1 44 1 = nI w0 ∧ σ.1 44 0 = nI rd
def lin (W : gW) (L : Nat → Bool) : Prop := ∀ r, L r = true → r < W.N
theorem lin_k {W : gW} {P L : Nat → Bool} (h : lin W L) : lin W (kpt P L) := fun r hr => by
  unfold kpt at hr
  rw [Bool.and_eq_true] at hr
  exact h r hr.2
theorem lin_f {W : gW} {L : Nat → Bool} (h : lin W L) {r : Nat} (hr : W.N ≤ r) : L r = false := by
  cases e : L r with
  | false => rfl
  | true => exact absurd (h r e) (by omega)
theorem rl_ext {n : Nat} {L : Nat → Bool} (h : ∀ r, n ≤ r → L r = false) : ∀ k, rl (n + k) L = rl n L := by
  intro k
  induction k with
  | zero => rfl
  | succ k ih =>
    rw [← Nat.add_assoc, rl_s, if_neg (by rw [h _ (by omega)]; decide)]
    exact ih
section
variable {W : gW} {L : Nat → Bool} {w0 rd : Nat}
theorem m_leavesAs (hW : wOK W) {σ : fhM} (hrw : rwM' W σ) (hg : gmM W L w0 rd σ) (hi : lin W L) (hw0 : w0 ∈ rl W.N L) {mk : Nat} (hm : mk < 1024) : wq (f_X12_leavesAs (nI mk) σ) (fun r => r.1 = nI (kb W (rl W.N L) w0 &&& mk) ∧ ∃ t u n, r.2 = fhU (fhU (fhU σ 46 t) 42 u) 44 n ∧ (∀ r, r < 1024 → n (2 + r) = nI (if kpt (alk (kb W (rl W.N L)) mk w0) L r = true then 1 else 0)) ∧ ∀ j, (j < 2 ∨ 1026 ≤ j) → n j = σ.1 44 j) := by
  have hN10 := hW.2.1
  obtain ⟨hL, h1, h0⟩ := hg
  have hwN := rl_lt _ hw0
  have hLw := (rl_mem.mp hw0).2
  have le : ∀ x, x &&& mk < 1024 := fun x => by
    have : x &&& mk ≤ mk := Nat.and_le_right
    omega
  unfold f_X12_leavesAs
  rw [wq_bind]
  refine wq_mono (m_laysKnowing hW hrw hL) (fun s z => ?_)
  obtain ⟨t, u, rfl, ht⟩ := z
  rw [fhU_o (by decide), fhU_o (by decide), h1, if_pos (ph_in1 (by omega) (by omega)), ph_ix (by omega), fhU_o (by decide), fhU_e, ht w0 hwN, if_pos hLw, ph_and]
  refine wq_for (R := fun k x => ∃ n, x = (nI k, fhU (fhU (fhU σ 46 t) 42 u) 44 n) ∧ (∀ r, r < 1024 → n (2 + r) = nI (if (if r < k then kpt (alk (kb W (rl W.N L)) mk w0) L r else L r) = true then 1 else 0)) ∧ ∀ j, (j < 2 ∨ 1026 ≤ j) → n j = σ.1 44 j) 0 W.N (Nat.zero_le _) ?_ ?_ ⟨(fhU (fhU σ 46 t) 42 u).1 44, by rw [fhU_id (fun _ => rfl)]; rfl, fun r hr => by rw [if_neg (Nat.not_lt_zero r), fhU_o (by decide), fhU_o (by decide)]; exact hL r hr, fun j _ => by rw [fhU_o (by decide), fhU_o (by decide)]⟩
  · rintro k x - hk ⟨n, rfl, n1, n2⟩
    (try dsimp only)
    unfold f_X12_leavesAs_20 f_X12_leavesAs_57
    have hlf : f_X12_isLeft (nI k) (fhU (fhU (fhU σ 46 t) 42 u) 44 n) = some (L k) := by
      unfold f_X12_isLeft
      rw [show (2 : Int32) = nI 2 from rfl, nI_add, if_pos (ph_in1 (by omega) (by omega)), ph_ix (by omega), fhU_e, n1 k (by omega), if_neg (Nat.lt_irrefl k)]
      cases L k
      · rw [if_neg (show ¬ false = true by decide), if_neg (show ¬ nI 0 = (1 : Int32) by decide)]
      · rw [if_pos rfl, if_pos (show nI 1 = (1 : Int32) from rfl)]
    rw [fhU_o (by decide), fhU_o (by decide), fhU_o (by decide), hrw.2.2.1, if_neg (nI_ge hk (by omega)), hlf, wq_bind, wq_some, nI_1]
    by_cases q : L k = true
    · rw [if_pos q, if_pos (ph_in1 (by omega) (by omega)), ph_ix (k := k) (by omega), fhU_o (by decide), fhU_o (by decide), fhU_e, ht k hk, if_pos q, ph_and]
      have a1 := le (kb W (rl W.N L) k)
      have a2 := le (kb W (rl W.N L) w0)
      by_cases q2 : kb W (rl W.N L) k &&& mk = kb W (rl W.N L) w0 &&& mk
      · rw [if_pos (by rw [q2]), wq_some, fhK_l]
        refine ⟨n, rfl, fun r hr => ?_, n2⟩
        rw [n1 r hr]
        by_cases q3 : r = k
        · rw [q3, if_neg (Nat.lt_irrefl k), if_pos (Nat.lt_succ_self k)]
          have : kpt (alk (kb W (rl W.N L)) mk w0) L k = true := by
            unfold kpt alk
            rw [decide_eq_true q2, q]; rfl
          rw [if_pos q, if_pos this]
        · by_cases q4 : r < k
          · rw [if_pos q4, if_pos (show r < k + 1 by omega)]
          · rw [if_neg q4, if_neg (show ¬ r < k + 1 by omega)]
      · rw [if_neg (fun z => q2 ((nI_eq (by omega) (by omega)).mp z)), show (2 : Int32) = nI 2 from rfl, nI_add, if_pos (ph_in1 (by omega) (by omega)), ph_ix (by omega), fhU_I, wq_some, fhK_l]
        refine ⟨_, rfl, fun r hr => ?_, fun j hj => ?_⟩
        · (try dsimp only)
          by_cases q3 : r = k
          · rw [if_pos (by omega), q3, if_pos (Nat.lt_succ_self k)]
            have : kpt (alk (kb W (rl W.N L)) mk w0) L k = false := by
              unfold kpt alk
              rw [decide_eq_false q2]; rfl
            rw [this, if_neg (by decide)]
            rfl
          · rw [if_neg (by omega), n1 r hr]
            by_cases q4 : r < k
            · rw [if_pos q4, if_pos (show r < k + 1 by omega)]
            · rw [if_neg q4, if_neg (show ¬ r < k + 1 by omega)]
        · (try dsimp only)
          rw [if_neg (by omega)]
          exact n2 j hj
    · rw [if_neg q, wq_some, fhK_l]
      refine ⟨n, rfl, fun r hr => ?_, n2⟩
      rw [n1 r hr]
      by_cases q3 : r = k
      · rw [q3, if_neg (Nat.lt_irrefl k), if_pos (Nat.lt_succ_self k)]
        have : kpt (alk (kb W (rl W.N L)) mk w0) L k = false := by
          unfold kpt
          rw [Bool.and_eq_false_iff]
          exact Or.inr (by cases e : L k with | true => exact absurd e q | false => rfl)
        rw [if_neg q, this, if_neg (by decide)]
      · by_cases q4 : r < k
        · rw [if_pos q4, if_pos (show r < k + 1 by omega)]
        · rw [if_neg q4, if_neg (show ¬ r < k + 1 by omega)]
  · rintro x ⟨n, rfl, n1, n2⟩
    (try dsimp only)
    unfold f_X12_leavesAs_20
    rw [fhU_o (by decide), fhU_o (by decide), fhU_o (by decide), hrw.2.2.1, if_pos (nI_le (Nat.le_refl _) (by omega)), wq_some, fhK_r]
    refine ⟨rfl, t, u, n, rfl, fun r hr => ?_, n2⟩
    rw [n1 r hr]
    by_cases q : r < W.N
    · rw [if_pos q]
    · rw [if_neg q, lin_f hi (by omega), lin_f (lin_k hi) (by omega)]
theorem m_leftMany (hW : wOK W) {σ : fhM} (hL : lfM L σ) (hi : lin W L) : f_X12_leftMany σ = some (nI (rl W.N L).length) := by
  have hN10 := hW.2.1
  refine wq_eq ?_
  unfold f_X12_leftMany
  refine wq_for (R := fun k x => x = (nI (rl k L).length, nI k)) 0 1024 (Nat.zero_le _) ?_ ?_ rfl
  · rintro k x - hk rfl
    (try dsimp only)
    unfold f_X12_leftMany_4
    rw [if_neg (show ¬ (1024 : Int32) ≤ nI k from nI_ge (b := 1024) hk (by decide)), show (2 : Int32) = nI 2 from rfl, nI_add, if_pos (ph_in1 (by omega) (by omega)), ph_ix (by omega), hL k hk, nI_add, nI_1, wq_some, fhK_l, rl_s]
    by_cases q : L k = true
    · rw [if_pos q, if_pos q, List.length_append, List.length_singleton]
    · rw [if_neg q, if_neg q]
      rfl
  · rintro x rfl
    (try dsimp only)
    unfold f_X12_leftMany_4
    have : rl 1024 L = rl W.N L := by
      have := rl_ext (n := W.N) (L := L) (fun r hr => lin_f hi hr) (1024 - W.N)
      rw [show W.N + (1024 - W.N) = 1024 by omega] at this
      exact this
    rw [if_pos (show (1024 : Int32) ≤ nI 1024 by decide), wq_some, fhK_r, this]
/-- what is told as kept -/
abbrev kE : Type := Nat × Nat × Nat × Nat
def kpM (K : List kE) (σ : fhM) : Prop := σ.1 44 1026 = nI K.length ∧ K.length ≤ 40 ∧ ∀ k e, K[k]? = some e → σ.1 44 (1027 + 4 * k) = nI e.1 ∧ σ.1 44 (1027 + 4 * k + 1) = nI e.2.1 ∧ σ.1 44 (1027 + 4 * k + 2) = nI e.2.2.1 ∧ σ.1 44 (1027 + 4 * k + 3) = nI e.2.2.2
def ad40 (K : List kE) (e : kE) : List kE := (if K.length = 40 then K.drop 1 else K) ++ [e]
theorem m_keptT {a b c : Int32} {σ : fhM} (h : σ.1 0 62 = 1) : f_X12_isKept a b c σ = some σ := by
  unfold f_X12_isKept
  rw [h, if_neg (by decide)]
theorem m_kept71 (hW : wOK W) {σ : fhM} (hL : lfM L σ) (hi : lin W L) {n a b c : Nat} (hn : n < 40) (h : σ.1 44 1026 = nI (n + 1)) : wq (f_X12_isKept_71 (nI a) (nI b) (nI c) σ) (fun s => s = fhI (fhI (fhI (fhI σ 44 (1027 + 4 * n) (nI a)) 44 (1027 + 4 * n + 1) (nI b)) 44 (1027 + 4 * n + 2) (nI c)) 44 (1027 + 4 * n + 3) (nI (rl W.N L).length)) := by
  unfold f_X12_isKept_71 fhlet
  have e : (1027 : Int32) + (4 : Int32) * nI (n + 1) - (4 : Int32) = nI (1027 + 4 * n) := by
    rw [show (1027 : Int32) = nI 1027 from rfl, show (4 : Int32) = nI 4 from rfl, pk_mul, nI_add, pk_sub (by omega), show 1027 + 4 * (n + 1) - 4 = 1027 + 4 * n by omega]
  rw [h, e]
  dsimp only
  rw [show (2 : Int32) = nI 2 from rfl, show (3 : Int32) = nI 3 from rfl, nI_1, nI_add, nI_add, ph_in (by omega), ph_in (by omega), ph_in (by omega), ph_in (by omega), decide_eq_true (show 1027 + 4 * n < 1187 by omega), decide_eq_true (show 1027 + 4 * n + 1 < 1187 by omega), decide_eq_true (show 1027 + 4 * n + 2 < 1187 by omega), decide_eq_true (show 1027 + 4 * n + 3 < 1187 by omega), if_pos (show (true && (true && (true && true))) = true from rfl), ph_ix (by omega), ph_ix (by omega), ph_ix (by omega), ph_ix (by omega), m_leftMany hW (L := L) (fun r hr => by rw [fhI_s (by omega), fhI_s (by omega), fhI_s (by omega)]; exact hL r hr) hi, wq_bind, wq_some, if_pos (show (true && true) = true from rfl), wq_some]
theorem m_kept (hW : wOK W) {σ : fhM} (hL : lfM L σ) (hi : lin W L) {K : List kE} (hK : kpM K σ) (h62 : σ.1 0 62 = 0) {a b c : Nat} : wq (f_X12_isKept (nI a) (nI b) (nI c) σ) (fun s => ∃ n, s = fhU σ 44 n ∧ (∀ j, j < 1026 → n j = σ.1 44 j) ∧ kpM (ad40 K (a, b, c, (rl W.N L).length)) s) := by
  obtain ⟨k1, k2, k3⟩ := hK
  unfold f_X12_isKept
  rw [if_pos h62, k1]
  by_cases q : K.length = 40
  · rw [if_pos (by rw [q]; rfl)]
    refine wq_for (R := fun v x => ∃ n, x = (nI v, fhU σ 44 n) ∧ (∀ j, j < 1027 → n j = σ.1 44 j) ∧ (∀ j, 1027 ≤ j → j < v → n j = σ.1 44 (j + 4)) ∧ ∀ j, v ≤ j → n j = σ.1 44 j) 1027 1183 (by decide) ?_ ?_ ⟨σ.1 44, by rw [fhU_id (fun _ => rfl)]; rfl, fun j _ => rfl, fun j h1 h2 => by omega, fun j _ => rfl⟩
    · rintro v x hv0 hv ⟨n, rfl, n1, n2, n3⟩
      (try dsimp only)
      unfold f_X12_isKept_26
      rw [if_neg (show ¬ (1183 : Int32) ≤ nI v from nI_ge (b := 1183) hv (by decide)), show (4 : Int32) = nI 4 from rfl, nI_add, ph_in (by omega), ph_in (by omega), decide_eq_true (show v + 4 < 1187 by omega), decide_eq_true (show v < 1187 by omega), if_pos (show (true && (true && true)) = true from rfl), ph_ix (by omega), ph_ix (by omega), fhU_e, n3 _ (by omega), fhU_I, nI_1, wq_some, fhK_l]
      refine ⟨_, rfl, fun j hj => ?_, fun j h1 h2 => ?_, fun j hj => ?_⟩
      · (try dsimp only)
        rw [if_neg (by omega)]; exact n1 j hj
      · (try dsimp only)
        by_cases q2 : j = v
        · rw [if_pos q2, q2]
        · rw [if_neg q2]; exact n2 j h1 (by omega)
      · (try dsimp only)
        rw [if_neg (by omega)]; exact n3 j (by omega)
    · rintro x ⟨n, rfl, n1, n2, n3⟩
      (try dsimp only)
      unfold f_X12_isKept_26
      rw [if_pos (show (1183 : Int32) ≤ nI 1183 by decide), wq_map]
      refine wq_mono (m_kept71 hW (L := L) (n := 39) (fun r hr => by rw [fhU_e, n1 _ (by omega)]; exact hL r hr) hi (by decide) (by rw [fhU_e, n1 _ (by decide), k1, q])) (fun s hs => ?_)
      rw [fhK_r]
      rw [fhU_I, fhU_I, fhU_I, fhU_I] at hs
      refine ⟨_, hs, fun j hj => ?_, ?_⟩
      · rw [if_neg (by omega), if_neg (by omega), if_neg (by omega), if_neg (by omega)]; exact n1 j (by omega)
      · have hd : (K.drop 1).length = 39 := by rw [List.length_drop, q]
        unfold ad40
        rw [if_pos q]
        refine ⟨?_, by rw [List.length_append, hd]; exact Nat.le_refl _, fun k e he => ?_⟩
        · rw [hs, fhU_e, if_neg (by decide), if_neg (by decide), if_neg (by decide), if_neg (by decide), n1 _ (by decide), k1, q, List.length_append, hd]
          rfl
        · rcases Nat.lt_or_ge k 39 with y | y
          · rw [List.getElem?_append_left (by omega), List.getElem?_drop] at he
            obtain ⟨e1, e2, e3, e4⟩ := k3 (1 + k) e he
            rw [hs]
            refine ⟨?_, ?_, ?_, ?_⟩
            · rw [fhU_e, if_neg (by omega), if_neg (by omega), if_neg (by omega), if_neg (by omega), n2 _ (by omega) (by omega), show 1027 + 4 * k + 4 = 1027 + 4 * (1 + k) by omega]; exact e1
            · rw [fhU_e, if_neg (by omega), if_neg (by omega), if_neg (by omega), if_neg (by omega), n2 _ (by omega) (by omega), show 1027 + 4 * k + 1 + 4 = 1027 + 4 * (1 + k) + 1 by omega]; exact e2
            · rw [fhU_e, if_neg (by omega), if_neg (by omega), if_neg (by omega), if_neg (by omega), n2 _ (by omega) (by omega), show 1027 + 4 * k + 2 + 4 = 1027 + 4 * (1 + k) + 2 by omega]; exact e3
            · rw [fhU_e, if_neg (by omega), if_neg (by omega), if_neg (by omega), if_neg (by omega), n2 _ (by omega) (by omega), show 1027 + 4 * k + 3 + 4 = 1027 + 4 * (1 + k) + 3 by omega]; exact e4
          · rw [List.getElem?_append_right (by omega), hd] at he
            have hk : k - 39 = 0 := by
              cases y5 : k - 39 with
              | zero => rfl
              | succ n => rw [y5] at he; cases he
            rw [hk] at he
            cases he
            have hk2 : k = 39 := by omega
            subst hk2
            rw [hs]
            refine ⟨?_, ?_, ?_, ?_⟩
            · rw [fhU_e, if_neg (by decide), if_neg (by decide), if_neg (by decide), if_pos rfl]
            · rw [fhU_e, if_neg (by decide), if_neg (by decide), if_pos rfl]
            · rw [fhU_e, if_neg (by decide), if_pos rfl]
            · rw [fhU_e, if_pos rfl]
  · rw [if_neg (show ¬ nI K.length = (40 : Int32) from nIn q (b := 40) (by omega) (by decide)), nI_1]
    refine wq_mono (m_kept71 hW (L := L) (n := K.length) (fun r hr => by rw [fhI_s (by omega)]; exact hL r hr) hi (by omega) (by rw [fhI_e])) (fun s hs => ?_)
    rw [fhI_U (σ := σ), fhU_I, fhU_I, fhU_I, fhU_I] at hs
    refine ⟨_, hs, fun j hj => ?_, ?_⟩
    · rw [if_neg (by omega), if_neg (by omega), if_neg (by omega), if_neg (by omega), if_neg (by omega)]
    · unfold ad40
      rw [if_neg q]
      refine ⟨?_, by rw [List.length_append, List.length_singleton]; omega, fun k e he => ?_⟩
      · rw [hs, fhU_e, if_neg (by omega), if_neg (by omega), if_neg (by omega), if_neg (by omega), if_pos rfl, List.length_append, List.length_singleton]
      · rcases Nat.lt_or_ge k K.length with y | y
        · rw [List.getElem?_append_left y] at he
          obtain ⟨e1, e2, e3, e4⟩ := k3 k e he
          rw [hs]
          refine ⟨?_, ?_, ?_, ?_⟩
          · rw [fhU_e, if_neg (by omega), if_neg (by omega), if_neg (by omega), if_neg (by omega), if_neg (by omega)]; exact e1
          · rw [fhU_e, if_neg (by omega), if_neg (by omega), if_neg (by omega), if_neg (by omega), if_neg (by omega)]; exact e2
          · rw [fhU_e, if_neg (by omega), if_neg (by omega), if_neg (by omega), if_neg (by omega), if_neg (by omega)]; exact e3
          · rw [fhU_e, if_neg (by omega), if_neg (by omega), if_neg (by omega), if_neg (by omega), if_neg (by omega)]; exact e4
        · rw [List.getElem?_append_right y] at he
          have hk : k - K.length = 0 := by
            cases y5 : k - K.length with
            | zero => rfl
            | succ n => rw [y5] at he; cases he
          rw [hk] at he
          cases he
          have hk2 : k = K.length := by omega
          rw [hs, hk2]
          refine ⟨?_, ?_, ?_, ?_⟩
          · rw [fhU_e, if_neg (by omega), if_neg (by omega), if_neg (by omega), if_pos rfl]
          · rw [fhU_e, if_neg (by omega), if_neg (by omega), if_pos rfl]
          · rw [fhU_e, if_neg (by omega), if_pos rfl]
          · rw [fhU_e, if_pos rfl]
end
