/-! THE JOURNAL: what is kept; the reference saves and takes back -/
def lst40 (H : List kE) : List kE := H.drop (H.length - 40)
theorem lst40_len (H : List kE) : (lst40 H).length = min H.length 40 := by
  unfold lst40
  rw [List.length_drop]
  omega
theorem ad40_lst (H : List kE) (e : kE) : ad40 (lst40 H) e = lst40 (H ++ [e]) := by
  unfold ad40 lst40
  rw [List.length_drop, List.length_append, List.length_singleton]
  by_cases q : 40 ≤ H.length
  · have e1 : (H.drop (H.length - 40)).drop 1 = H.drop (H.length + 1 - 40) := by
      rw [List.drop_drop]
      congr 1
      omega
    rw [if_pos (by omega), e1, List.drop_append_of_le_length (by omega)]
  · rw [if_neg (by omega), show H.length - 40 = 0 by omega, List.drop_zero, show H.length + 1 - 40 = 0 by omega, List.drop_zero]
theorem lst40_at {H : List kE} {i : Nat} : (lst40 H)[i]? = H[H.length - 40 + i]? := by
  unfold lst40
  rw [List.getElem?_drop]
def kEi (e : kE) (j : Nat) : Nat := if j = 0 then e.1 else if j = 1 then e.2.1 else if j = 2 then e.2.2.1 else e.2.2.2
def kptA (K : List kE) (v w : Int32) : Int32 := if inB v K.length ∧ inB w 4 then nI (kEi (K.getD v.toInt.toNat (0, 0, 0, 0)) w.toInt.toNat) else -1
theorem kE_som {K : List kE} {k : Nat} (h : k < K.length) : K[k]? = some (K.getD k (0, 0, 0, 0)) := by
  rw [List.getD_eq_getElem?_getD, List.getElem?_eq_getElem h]
  rfl
theorem c_keptA {σ : fhM} {b : Nat} {H : List kE} (h : rngF b H σ) (hb : b ≤ H.length) (hH : H.length < 2 ^ 30) (v w : Int32) : f_X11_kept v w σ = kptA (lst40 H) v w := by
  obtain ⟨h1, h2⟩ := h
  have hm : min H.length 40 ≤ H.length ∧ min H.length 40 ≤ 40 := ⟨Nat.min_le_left _ _, Nat.min_le_right _ _⟩
  have ht : f_X6_toldCount σ = nI (lst40 H).length := by
    unfold f_X6_toldCount
    rw [h1, show (40 : Int32) = nI 40 from rfl, nI_min (by omega) (by decide), lst40_len]
  have hl := lst40_len H
  unfold f_X11_kept kptA
  rw [ht]
  by_cases q0 : v.toInt < 0
  · rw [if_pos (by rw [lt0_P]; exact q0), if_neg (fun z => by have := z.1.1; omega)]
  rw [if_neg (by rw [lt0_P]; exact q0)]
  by_cases q1 : ((lst40 H).length : Int) ≤ v.toInt
  · rw [if_pos (by rw [le_nP v (by omega)]; exact q1), if_neg (fun z => by have := z.1.2; omega)]
  rw [if_neg (by rw [le_nP v (by omega)]; exact q1)]
  by_cases q2 : w.toInt < 0
  · rw [if_pos (by rw [lt0_P]; exact q2), if_neg (fun z => by have := z.2.1; omega)]
  rw [if_neg (by rw [lt0_P]; exact q2)]
  by_cases q3 : w.toInt ≤ 3
  · have hv : inB v (lst40 H).length := ⟨by omega, by omega⟩
    have hw : inB w 4 := ⟨by omega, by omega⟩
    rw [if_pos (by rw [show (3 : Int32) = nI 3 from rfl, le_n2P w (by decide)]; exact q3), if_pos ⟨hv, hw⟩]
    obtain ⟨e1, a1⟩ := inB_e hv
    obtain ⟨e2, a2⟩ := inB_e hw
    generalize v.toInt.toNat = i at e1 a1
    generalize w.toInt.toNat = j at e2 a2
    have hk := kE_som a1
    generalize (lst40 H).getD i (0, 0, 0, 0) = x at hk
    rw [lst40_at] at hk
    obtain ⟨b1, b2, b3, b4⟩ := h2 _ x hk (by omega)
    have hmod : (H.length - 40 + i) % 512 < 512 := Nat.mod_lt _ (by decide)
    have hand : nI (H.length - 40 + i) &&& (511 : Int32) = nI ((H.length - 40 + i) % 512) := by
      rw [show (511 : Int32) = nI 511 from rfl, ph_and, show (H.length - 40 + i) &&& 511 = (H.length - 40 + i) % 512 from Nat.and_two_pow_sub_one_eq_mod _ 9]
    unfold f_X6_entry
    rw [ht, h1, e1, e2, pk_sub (by omega), nI_add, show H.length - (lst40 H).length = H.length - 40 by omega, hand, show (4 : Int32) = nI 4 from rfl, pk_mul, nI_add, cg94 (by omega)]
    unfold kEi
    have : j = 0 ∨ j = 1 ∨ j = 2 ∨ j = 3 := by omega
    rcases this with y | y | y | y
    · rw [y, if_pos rfl]; exact b1
    · rw [y, if_neg (by decide), if_pos rfl]; exact b2
    · rw [y, if_neg (by decide), if_neg (by decide), if_pos rfl]; exact b3
    · rw [y, if_neg (by decide), if_neg (by decide), if_neg (by decide)]; exact b4
  · rw [if_neg (by rw [show (3 : Int32) = nI 3 from rfl, le_n2P w (by decide)]; exact q3), if_neg (fun z => by have := z.2.2; omega)]
theorem m_keptA {σ : fhM} {K : List kE} (h : kpM K σ) (v w : Int32) : f_X12_kept v w σ = some (kptA K v w) := by
  obtain ⟨h1, h2, h3⟩ := h
  unfold f_X12_kept kptA
  rw [h1]
  by_cases q : inB v K.length
  · rw [if_pos (by rw [m_inB v (by omega)]; exact q)]
    by_cases q2 : inB w 4
    · obtain ⟨e1, a1⟩ := inB_e q
      obtain ⟨e2, a2⟩ := inB_e q2
      rw [if_pos (by rw [lI_0, show (3 : Int64) = lI 3 by decide +kernel, m_inI w (by omega) (by omega) (by omega) (by omega)]; have := q2.1; have := q2.2; omega), if_pos (show inB v K.length ∧ inB w 4 from ⟨q, q2⟩)]
      generalize v.toInt.toNat = i at e1 a1
      generalize w.toInt.toNat = j at e2 a2
      have hk := kE_som a1
      generalize K.getD i (0, 0, 0, 0) = x at hk
      obtain ⟨b1, b2, b3, b4⟩ := h3 _ x hk
      rw [e1, e2, show (1027 : Int32) = nI 1027 from rfl, show (4 : Int32) = nI 4 from rfl, pk_mul, nI_add, nI_add, if_pos (ph_in1 (by omega) (by omega)), ph_ix (by omega)]
      unfold kEi
      have : j = 0 ∨ j = 1 ∨ j = 2 ∨ j = 3 := by omega
      rcases this with y | y | y | y
      · rw [y, if_pos rfl, Nat.add_zero, b1]
      · rw [y, if_neg (by decide), if_pos rfl, b2]
      · rw [y, if_neg (by decide), if_neg (by decide), if_pos rfl, b3]
      · rw [y, if_neg (by decide), if_neg (by decide), if_neg (by decide), b4]
    · rw [if_neg (by rw [lI_0, show (3 : Int64) = lI 3 by decide +kernel, m_inI w (by omega) (by omega) (by omega) (by omega)]; exact fun z => q2 ⟨z.1, by have := z.2; omega⟩), if_neg (fun z => q2 z.2)]
  · rw [if_neg (by rw [m_inB v (by omega)]; exact q), if_neg (fun z => q z.1)]
/-- the reference saves the whole table, and takes it back -/
theorem m_keeps {σ : fhM} {x n : Nat} (hx : σ.1 0 72 = nI x) (hx2 : x < 20) (hn : σ.1 0 71 = nI n) (hn2 : n ≤ 20) : wq (f_X12_keeps σ) (fun s => ∃ t, s = fhI (fhU (fhI σ 0 72 (nI ((x + 1) % 20))) 51 t) 0 71 (nI (min (n + 1) 20)) ∧ (∀ j, j < 1187 → t (1187 * ((x + 1) % 20) + j) = σ.1 44 j) ∧ ∀ j, ¬ (1187 * ((x + 1) % 20) ≤ j ∧ j < 1187 * ((x + 1) % 20) + 1187) → t j = σ.1 51 j) := by
  have hq : (x + 1) % 20 < 20 := Nat.mod_lt _ (by decide)
  have e : fhrem (nI x + (1 : Int32)) (20 : Int32) = nI ((x + 1) % 20) := by
    rw [show (1 : Int32) = nI 1 from rfl, show (20 : Int32) = nI 20 from rfl, nI_add, ph_rem (by omega) (by decide) (by decide)]
  unfold f_X12_keeps
  rw [hx, e]
  generalize (x + 1) % 20 = q at hq
  have h72 : ∀ t, (fhU (fhI σ 0 72 (nI q)) 51 t).1 0 72 = nI q := fun t => by rw [fhU_o (by decide), fhI_e]
  have h71 : ∀ t, (fhU (fhI σ 0 72 (nI q)) 51 t).1 0 71 = nI n := fun t => by rw [fhU_o (by decide), fhI_s (by decide)]; exact hn
  have h44 : ∀ t j, (fhU (fhI σ 0 72 (nI q)) 51 t).1 44 j = σ.1 44 j := fun t j => by rw [fhU_o (by decide), fhI_o (by decide)]
  refine wq_for (R := fun k x => ∃ t, x = (nI k, fhU (fhI σ 0 72 (nI q)) 51 t) ∧ (∀ j, j < k → t (1187 * q + j) = σ.1 44 j) ∧ ∀ j, ¬ (1187 * q ≤ j ∧ j < 1187 * q + 1187) → t j = σ.1 51 j) 0 1187 (Nat.zero_le _) ?_ ?_ ⟨σ.1 51, by rw [fhU_id (fun j => by rw [fhI_o (by decide)])]; rfl, fun j hj => absurd hj (Nat.not_lt_zero _), fun _ _ => rfl⟩
  · rintro k y - hk ⟨t, rfl, ht, hf⟩
    (try dsimp only)
    unfold f_X12_keeps_15
    rw [show (1187 : Int32) = nI 1187 from rfl, if_neg (nI_ge hk (by omega)), h72, pk_mul, nI_add, ph_in (by omega), ph_in (by omega), decide_eq_true (show k < 1187 by omega), decide_eq_true (show 1187 * q + k < 23740 by omega), if_pos (show (true && (true && true)) = true from rfl), ph_ix (by omega), ph_ix (by omega), h44, fhU_I, nI_1, wq_some, fhK_l]
    refine ⟨_, rfl, fun j hj => ?_, fun j hj => ?_⟩
    · (try dsimp only)
      by_cases qj : j = k
      · rw [if_pos (by omega), qj]
      · rw [if_neg (by omega)]
        exact ht j (by omega)
    · (try dsimp only)
      rw [if_neg (by omega)]
      exact hf j hj
  · rintro y ⟨t, rfl, ht, hf⟩
    (try dsimp only)
    unfold f_X12_keeps_15
    rw [show (1187 : Int32) = nI 1187 from rfl, if_pos (nI_le (Nat.le_refl _) (by omega)), h71, show (20 : Int32) = nI 20 from rfl]
    by_cases q2 : 20 ≤ n
    · rw [if_pos (nI_le q2 (by omega)), wq_some, fhK_r]
      refine ⟨t, ?_, ht, hf⟩
      exact (fhI_id (σ := fhU (fhI σ 0 72 (nI q)) 51 t) (by rw [h71, show min (n + 1) 20 = n by omega])).symm
    · rw [if_neg (nI_ge (by omega) (by omega)), wq_some, fhK_r]
      refine ⟨t, ?_, ht, hf⟩
      rw [nI_1, show min (n + 1) 20 = n + 1 by omega]
theorem m_undoT {σ : fhM} {x n : Nat} (hx : σ.1 0 72 = nI x) (hx2 : x < 20) (hn : σ.1 0 71 = nI (n + 1)) (hn2 : n < 20) : wq (f_X12_undo σ) (fun r => r.1 = true ∧ ∃ f, r.2 = fhI (fhI (fhU σ 44 f) 0 72 (nI ((x + 19) % 20))) 0 71 (nI n) ∧ (∀ j, j < 1187 → f j = σ.1 51 (1187 * x + j)) ∧ ∀ j, 1187 ≤ j → f j = σ.1 44 j) := by
  have e : fhrem ((nI x + (20 : Int32)) - (1 : Int32)) (20 : Int32) = nI ((x + 19) % 20) := by
    rw [show (20 : Int32) = nI 20 from rfl, show (1 : Int32) = nI 1 from rfl, nI_add, pk_sub (by omega), ph_rem (by omega) (by decide) (by decide), show x + 20 - 1 = x + 19 by omega]
  unfold f_X12_undo
  rw [hn, if_neg (nI_ne0 (by omega) (by omega))]
  refine wq_for (R := fun k y => ∃ f, y = (nI k, fhU σ 44 f) ∧ (∀ j, j < k → f j = σ.1 51 (1187 * x + j)) ∧ ∀ j, k ≤ j → f j = σ.1 44 j) 0 1187 (Nat.zero_le _) ?_ ?_ ⟨σ.1 44, by rw [fhU_id (fun _ => rfl)]; rfl, fun j hj => absurd hj (Nat.not_lt_zero _), fun _ _ => rfl⟩
  · rintro k y - hk ⟨f, rfl, hf, hg⟩
    (try dsimp only)
    unfold f_X12_undo_21
    rw [show (1187 : Int32) = nI 1187 from rfl, if_neg (nI_ge hk (by omega)), fhU_o (show 0 ≠ 44 by decide), hx, pk_mul, nI_add, ph_in (by omega), ph_in (by omega), decide_eq_true (show k < 1187 by omega), decide_eq_true (show 1187 * x + k < 23740 by omega), if_pos (show (true && (true && true)) = true from rfl), ph_ix (by omega), ph_ix (by omega), fhU_o (show 51 ≠ 44 by decide), fhU_I, nI_1, wq_some, fhK_l]
    refine ⟨_, rfl, fun j hj => ?_, fun j hj => ?_⟩
    · (try dsimp only)
      by_cases qj : j = k
      · rw [if_pos qj, qj]
      · rw [if_neg qj]
        exact hf j (by omega)
    · (try dsimp only)
      rw [if_neg (by omega)]
      exact hg j (by omega)
  · rintro y ⟨f, rfl, hf, hg⟩
    (try dsimp only)
    unfold f_X12_undo_21
    rw [show (1187 : Int32) = nI 1187 from rfl, if_pos (nI_le (Nat.le_refl _) (by omega)), fhU_o (show 0 ≠ 44 by decide), hx, e, wq_some, fhK_r]
    refine ⟨rfl, f, ?_, hf, hg⟩
    dsimp only
    rw [fhU_o (show 0 ≠ 44 by decide), hn, nI_dec (by omega), Nat.add_sub_cancel]
