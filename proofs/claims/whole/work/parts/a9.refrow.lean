/-! THE REFERENCE LAYS A ROW, ITS LEAVES -/
theorem wq_eq {α : Type} {o : Option α} {x : α} (h : wq o (fun r => r = x)) : o = some x := by
  obtain ⟨y, e, rfl⟩ := h
  exact e
theorem m_laysRow {m gn row : Nat} (hm : 2 ≤ m ∧ m ≤ 4) (hg : gn ≤ 5) (hrow : row < 2 ^ 31) (σ : fhM) : wq (f_X12_laysRow (nI row) (nI m) (nI gn) σ) (fun s => ∃ t, s = fhU (fhI σ 0 50 (nI gn)) 36 t ∧ ∀ i, i < gn → t i = nI (row / m ^ i % m)) := by
  unfold f_X12_laysRow
  refine wq_for (R := fun k x => ∃ t, x = (nI (row / m ^ k), nI k, fhU (fhI σ 0 50 (nI gn)) 36 t) ∧ ∀ i, i < k → t i = nI (row / m ^ i % m)) 0 gn (Nat.zero_le _) ?_ ?_ ⟨(fhI σ 0 50 (nI gn)).1 36, ?_, fun i hi => by cases hi⟩
  · rintro k x - hk ⟨t, rfl, ht⟩
    (try dsimp only)
    unfold f_X12_laysRow_11
    have hq : row / m ^ k ≤ row := Nat.div_le_self _ _
    have ex : fhrem (nI (row / m ^ k)) (nI m) = nI (row / m ^ k % m) := ph_rem (by omega) (by omega) (by omega)
    rw [if_neg (nI_ge hk (by omega)), ph_nz (by omega) (by omega), ph_in (by omega), decide_eq_true (show k < 5 by omega), if_pos (show (true && (true && (true && true))) = true from rfl), ex, pk_div (by omega) (by omega) (by omega), Nat.div_div_eq_div_mul, ← Nat.pow_succ, ph_ix (by omega), nI_1, fhU_I, wq_some, fhK_l]
    refine ⟨_, rfl, fun i hi => ?_⟩
    (try dsimp only)
    by_cases q : i = k
    · rw [if_pos q, q]
    · rw [if_neg q]
      exact ht i (by omega)
  · rintro x ⟨t, rfl, ht⟩
    (try dsimp only)
    unfold f_X12_laysRow_11
    rw [if_pos (nI_le (Nat.le_refl _) (by omega)), wq_some, fhK_r]
    exact ⟨t, rfl, ht⟩
  · rw [Nat.pow_zero, Nat.div_one, fhU_id (fun _ => rfl)]
    rfl
/-- a row is laid -/
def rwM (m gn row : Nat) (σ : fhM) : Prop := σ.1 0 50 = nI gn ∧ ∀ i, i < gn → σ.1 36 i = nI (row / m ^ i % m)
theorem rwM_st {m gn row n : Nat} {σ : fhM} {gg : Nat → Int64} (h : rwM m gn row σ) : rwM m gn row (mst σ n gg) := ⟨by rw [mst_o (by omega)]; exact h.1, fun i hi => by rw [mst_o (by omega)]; exact h.2 i hi⟩
section
variable {m gn row : Nat}
theorem m_rowSum (hm : 2 ≤ m ∧ m ≤ 4) (hg : gn ≤ 5) {σ : fhM} (h : rwM m gn row σ) : f_X12_rowSum σ = some (nI (fsum (rowm m gn row))) := by
  refine wq_eq ?_
  unfold f_X12_rowSum
  refine wq_for (R := fun k x => x = (nI (fsum (rowm m k row)), nI k)) 0 gn (Nat.zero_le _) ?_ ?_ rfl
  · rintro k x - hk rfl
    (try dsimp only)
    unfold f_X12_rowSum_4
    rw [h.1, if_neg (nI_ge hk (by omega)), if_pos (ph_in1 (by omega) (by omega)), ph_ix (by omega), h.2 k hk, nI_add, nI_1, wq_some, fhK_l, rowm_s, fsum_s]
  · rintro x rfl
    (try dsimp only)
    unfold f_X12_rowSum_4
    rw [h.1, if_pos (nI_le (Nat.le_refl _) (by omega)), wq_some, fhK_r]
theorem m_rowTop (hm : 2 ≤ m ∧ m ≤ 4) (hg : gn ≤ 5) {σ : fhM} (h : rwM m gn row σ) : f_X12_rowTop σ = some (nI (ftop (rowm m gn row))) := by
  refine wq_eq ?_
  unfold f_X12_rowTop
  refine wq_for (R := fun k x => x = (nI (ftop (rowm m k row)), nI k)) 0 gn (Nat.zero_le _) ?_ ?_ rfl
  · rintro k x - hk rfl
    (try dsimp only)
    unfold f_X12_rowTop_4 f_X12_rowTop_29
    obtain ⟨b1, b2, b3, b4⟩ := rowm_b (row := row) hm k (by omega)
    have hx : row / m ^ k % m < m := Nat.mod_lt _ (by omega)
    rw [h.1, if_neg (nI_ge hk (by omega)), if_pos (ph_in1 (by omega) (by omega)), ph_ix (by omega), h.2 k hk, rowm_s, ftop_s]
    by_cases q : ftop (rowm m k row) < row / m ^ k % m
    · rw [if_neg (nI_ge q (by omega)), if_pos (ph_in1 (by omega) (by omega)), wq_some, fhK_l, nI_1, if_pos q]
    · rw [if_pos (nI_le (by omega) (by omega)), wq_some, fhK_l, nI_1, if_neg q]
  · rintro x rfl
    (try dsimp only)
    unfold f_X12_rowTop_4
    rw [h.1, if_pos (nI_le (Nat.le_refl _) (by omega)), wq_some, fhK_r]
theorem m_rowLow (hm : 2 ≤ m ∧ m ≤ 4) (hg : gn ≤ 5) {σ : fhM} (h : rwM m gn row σ) : f_X12_rowLow σ = some (nI (flow (ftop (rowm m gn row)) (rowm m gn row))) := by
  obtain ⟨_, c2, _, _⟩ := rowm_b (row := row) hm gn hg
  refine wq_eq ?_
  unfold f_X12_rowLow
  rw [m_rowTop hm hg h, wq_bind, wq_some]
  generalize ftop (rowm m gn row) = a0 at *
  refine wq_for (R := fun k x => x = (nI (flow a0 (rowm m k row)), nI k)) 0 gn (Nat.zero_le _) ?_ ?_ rfl
  · rintro k x - hk rfl
    (try dsimp only)
    unfold f_X12_rowLow_7 f_X12_rowLow_32
    have b5 := flow_le (l := rowm m k row) a0
    have hx : row / m ^ k % m < m := Nat.mod_lt _ (by omega)
    rw [h.1, if_neg (nI_ge hk (by omega)), if_pos (ph_in1 (by omega) (by omega)), ph_ix (by omega), h.2 k hk, rowm_s, flow_s]
    by_cases q : row / m ^ k % m < flow a0 (rowm m k row)
    · rw [if_neg (nI_ge q (by omega)), if_pos (ph_in1 (by omega) (by omega)), wq_some, fhK_l, nI_1, if_pos q]
    · rw [if_pos (nI_le (by omega) (by omega)), wq_some, fhK_l, nI_1, if_neg q]
  · rintro x rfl
    (try dsimp only)
    unfold f_X12_rowLow_7
    rw [h.1, if_pos (nI_le (Nat.le_refl _) (by omega)), wq_some, fhK_r]
theorem m_countOf (hm : 2 ≤ m ∧ m ≤ 4) (hg : gn ≤ 5) {σ : fhM} (h : rwM m gn row σ) {n : Int} (hn : bnd n) : f_X12_countOf (lI n) σ = some (nI (if 0 ≤ n then ct (rowm m gn row) n.toNat else 0)) := by
  refine wq_eq ?_
  unfold bnd at hn
  unfold f_X12_countOf
  refine wq_for (R := fun k x => x = (nI (if 0 ≤ n then ct (rowm m k row) n.toNat else 0), nI k)) 0 gn (Nat.zero_le _) ?_ ?_ ?_
  · rintro k x - hk rfl
    (try dsimp only)
    unfold f_X12_countOf_5 f_X12_countOf_30
    have hx : row / m ^ k % m < m := Nat.mod_lt _ (by omega)
    have e : (lg_cmp (nI (row / m ^ k % m)).toInt64 (lI n) = 0) = (((row / m ^ k % m : Nat) : Int) = n) := by
      rw [nI_l (by omega), ← lI_n (by omega), lg_cmp_eq, lI_eqP (by omega) (by omega) (by omega) (by omega)]
    rw [h.1, if_neg (nI_ge hk (by omega)), if_pos (ph_in1 (by omega) (by omega)), ph_ix (by omega), h.2 k hk, wq_some, fhK_l, nI_1 k, rowm_s, ct_s]
    simp only [e]
    by_cases q0 : 0 ≤ n
    · rw [if_pos q0, if_pos q0]
      by_cases q : ((row / m ^ k % m : Nat) : Int) = n
      · rw [if_pos q, if_pos (by omega), nI_1]
      · rw [if_neg q, if_neg (by omega)]
    · rw [if_neg q0, if_neg q0, if_neg (by omega)]
  · rintro x rfl
    (try dsimp only)
    unfold f_X12_countOf_5
    rw [h.1, if_pos (nI_le (Nat.le_refl _) (by omega)), wq_some, fhK_r]
  · have : (if 0 ≤ n then ct (rowm m 0 row) n.toNat else 0) = 0 := by
      split <;> rfl
    rw [this]
    rfl
theorem m_rowKinds (hm : 2 ≤ m ∧ m ≤ 4) (hg : gn ≤ 5) {σ : fhM} (h : rwM m gn row σ) : f_X12_rowKinds σ = some (nI (fkin 4 (rowm m gn row))) := by
  obtain ⟨_, _, c3, _⟩ := rowm_b (row := row) hm gn hg
  refine wq_eq ?_
  unfold f_X12_rowKinds
  refine wq_for (R := fun k x => x = (nI (fkin k (rowm m gn row)), nI k)) 0 4 (Nat.zero_le _) ?_ ?_ rfl
  · rintro k x - hk rfl
    (try dsimp only)
    unfold f_X12_rowKinds_4 f_X12_rowKinds_21
    have := c3 k
    rw [if_neg (show ¬ (4 : Int32) ≤ nI k from nI_ge (b := 4) hk (by decide)), nI_l (by omega), ← lI_n (by omega), m_countOf hm hg h (by unfold bnd; omega), wq_bind, wq_some, wq_some, fhK_l, nI_1 k, fkin_s, if_pos (show (0 : Int) ≤ (k : Int) by omega), Int.toNat_natCast]
    by_cases q : ct (rowm m gn row) k = 0
    · rw [if_pos (show nI (ct (rowm m gn row) k) ≤ 0 by rw [nI_le0 (by omega)]; exact q), if_pos q]
    · rw [if_neg (show ¬ nI (ct (rowm m gn row) k) ≤ 0 by rw [nI_le0 (by omega)]; exact q), if_neg q, nI_1]
  · rintro x rfl
    (try dsimp only)
    unfold f_X12_rowKinds_4
    rw [if_pos (show (4 : Int32) ≤ nI 4 by decide), wq_some, fhK_r]
theorem m_leaves (hm : 2 ≤ m ∧ m ≤ 4) (hg : gn ≤ 5) {σ : fhM} (h : rwM m gn row σ) (i0 : Nat) : lvM false gn (lfR (rowm m gn row)) (lkR (rowm m gn row)) i0 σ := by
  obtain ⟨c1, c2, c3, c4⟩ := rowm_b (row := row) hm gn hg
  have hk4 := fkin_le 4 (rowm m gn row)
  have b6 := flow_le (l := rowm m gn row) (ftop (rowm m gn row))
  refine ⟨fun w hw => ?_, fun b n hb hn => ?_⟩
  · have hi : (decide (w < gn) || (decide (5 ≤ w) && decide (w ≤ 8))) = true := hw
    simp only [Bool.or_eq_true, Bool.and_eq_true, decide_eq_true_eq] at hi
    unfold lfR
    by_cases q : w < 5
    · have hig : w < gn := by omega
      have hv : (rowm m gn row).getD w 0 < m := by rw [rowm_at hig]; exact Nat.mod_lt _ (by omega)
      rw [if_pos q]
      refine ⟨by unfold bnd; omega, fun n gg => ?_⟩
      have er : rEnc (1, w) = 52 + w := if_pos q
      have hxw : row / m ^ w % m < m := Nat.mod_lt _ (by omega)
      unfold f_X12_qPartOf
      rw [er, show 52 + w - 40 = 12 + w by omega, if_neg (show ¬ nI (12 + w) < (12 : Int32) from nI_nlt (b := 12) (by omega) (by omega)), show (12 : Int32) = nI 12 from rfl, pk_sub (by omega), show 12 + w - 12 = w by omega, if_pos (ph_in1 (by omega) (by omega)), ph_ix (by omega), mst_o (by omega), h.2 w hig, nI_l (by omega), rowm_at hig, lI_n (by omega)]
    · have : w = 5 ∨ w = 6 ∨ w = 7 ∨ w = 8 := by omega
      rcases this with rfl | rfl | rfl | rfl
      · rw [if_neg (by decide), if_pos rfl]
        refine ⟨by unfold bnd; omega, fun n gg => ?_⟩
        show f_X12_qPartOf (nI 0) (nI i0) (mst σ n gg) = _
        unfold f_X12_qPartOf
        rw [if_pos (show nI 0 < (12 : Int32) by decide), if_pos (show nI 0 = (0 : Int32) from rfl), m_rowSum hm hg (rwM_st h), Option.bind_some, nI_l (by omega), lI_n (by omega)]
      · rw [if_neg (by decide), if_neg (by decide), if_pos rfl]
        refine ⟨by unfold bnd; omega, fun n gg => ?_⟩
        show f_X12_qPartOf (nI 1) (nI i0) (mst σ n gg) = _
        unfold f_X12_qPartOf
        rw [if_pos (show nI 1 < (12 : Int32) by decide), if_neg (show ¬ nI 1 = (0 : Int32) by decide), if_pos (show nI 1 = (1 : Int32) from rfl), m_rowTop hm hg (rwM_st h), Option.bind_some, nI_l (by omega), lI_n (by omega)]
      · rw [if_neg (by decide), if_neg (by decide), if_neg (by decide), if_pos rfl]
        refine ⟨by unfold bnd; omega, fun n gg => ?_⟩
        show f_X12_qPartOf (nI 2) (nI i0) (mst σ n gg) = _
        unfold f_X12_qPartOf
        rw [if_pos (show nI 2 < (12 : Int32) by decide), if_neg (show ¬ nI 2 = (0 : Int32) by decide), if_neg (show ¬ nI 2 = (1 : Int32) by decide), if_pos (show nI 2 = (2 : Int32) from rfl), m_rowLow hm hg (rwM_st h), Option.bind_some, nI_l (by omega), lI_n (by omega)]
      · rw [if_neg (by decide), if_neg (by decide), if_neg (by decide), if_neg (by decide)]
        refine ⟨by unfold bnd; omega, fun n gg => ?_⟩
        show f_X12_qPartOf (nI 3) (nI i0) (mst σ n gg) = _
        unfold f_X12_qPartOf
        rw [if_pos (show nI 3 < (12 : Int32) by decide), if_neg (show ¬ nI 3 = (0 : Int32) by decide), if_neg (show ¬ nI 3 = (1 : Int32) by decide), if_neg (show ¬ nI 3 = (2 : Int32) by decide), if_pos (show nI 3 = (3 : Int32) from rfl), m_rowKinds hm hg (rwM_st h), Option.bind_some, nI_l (by omega), lI_n (by omega)]
  · have hb : decide (b = 15) = true := hb
    have hb := of_decide_eq_true hb
    subst hb
    have hb2 : (if 0 ≤ n then ct (rowm m gn row) n.toNat else 0) ≤ gn := by
      split
      · exact c3 _
      · exact Nat.zero_le _
    have e : lkR (rowm m gn row) 15 n = ((if 0 ≤ n then ct (rowm m gn row) n.toNat else 0 : Nat) : Int) := by
      unfold lkR
      split <;> rfl
    rw [e]
    refine ⟨by unfold bnd; omega, fun k gg => ?_⟩
    show f_X12_qOf (nI 0) (lI n) (nI i0) (mst σ k gg) = _
    unfold f_X12_qOf
    rw [if_pos (show nI 0 = (0 : Int32) from rfl), m_countOf hm hg (rwM_st h) hn, Option.bind_some, nI_l (by omega), lI_n (by omega)]
end
/-- the worn row's number -/
theorem i32_sub1 (x : Int32) : x + (-1) = x - 1 := by rw [Int32.sub_eq_add_neg]
theorem m_wornRow {m : Nat} {ws : List Nat} (h5 : ws.length ≤ 5) (hm : m ≤ 4) {σ : fhM} (h0 : σ.1 29 0 = nI m) (h1 : σ.1 29 1 = nI ws.length) (h2 : ∀ g x, ws[g]? = some x → σ.1 31 g = nI x) : f_X12_wornRow σ = some (nI (wsum m ws)) := by
  refine wq_eq ?_
  unfold f_X12_wornRow
  rw [h1]
  refine wq_for (R := fun k x => x = (nI (wsum m (ws.drop (ws.length - k))), nI (ws.length - k) - 1)) 0 ws.length (Nat.zero_le _) ?_ ?_ ?_
  · rintro k x - hk rfl
    (try dsimp only)
    unfold f_X12_wornRow_11
    obtain ⟨j, hj⟩ : ∃ j, ws.length - k = j + 1 := ⟨ws.length - k - 1, by omega⟩
    have hjl : j < ws.length := by omega
    have hx : ws[j]? = some ws[j] := List.getElem?_eq_getElem hjl
    rw [hj, nI_pred, if_neg (nI_pos (by omega)), if_pos (ph_in1 (by omega) (by omega)), ph_ix (by omega), h0, h2 j _ hx, pk_mul, nI_add, wq_some, fhK_l, show ws.length - (k + 1) = j by omega, i32_sub1, List.drop_eq_getElem_cons hjl]
    show (nI (m * wsum m (ws.drop (j + 1)) + ws[j]), _) = (nI (ws[j] + m * wsum m (ws.drop (j + 1))), _)
    rw [Nat.add_comm]
  · rintro x rfl
    (try dsimp only)
    unfold f_X12_wornRow_11
    rw [Nat.sub_self, if_pos (show nI 0 - 1 < 0 by decide), wq_some, fhK_r]
    rfl
  · rw [Nat.sub_zero, List.drop_length]
    rfl
theorem m_loads {b n r : Nat} {cs : List gC} {c : gC} {σ : fhM} (h : mTs b cs n σ) (hc : cs[r]? = some c) (hb : b + r < 12) (hn : n ≤ 1600) : wq (f_X12_loadsTest (nI (b + r)) σ) (fun s => ∃ g, s = fhU (fhI σ 0 99 (nI c.length)) 76 g ∧ rS c s) := by
  obtain ⟨a, h1, h2, h3, h4⟩ := h r c hc
  unfold f_X12_loadsTest
  rw [if_pos (ph_in1 (by omega) hb), ph_ix (by omega), h1]
  refine wq_for (R := fun i x => ∃ g, x = (nI (a + i), fhU (fhI σ 0 99 (nI i)) 76 g) ∧ ∀ j c', j < i → c[j]? = some c' → g j = nI (rEnc c')) 0 c.length (Nat.zero_le _) ?_ ?_ ⟨(fhI σ 0 99 (nI 0)).1 76, ?_, fun j c' hj => by cases hj⟩
  · rintro i x - hi ⟨g, rfl, hg⟩
    (try dsimp only)
    unfold f_X12_loadsTest_12
    obtain ⟨c', hc'⟩ : ∃ c', c[i]? = some c' := ⟨_, List.getElem?_eq_getElem hi⟩
    rw [if_pos (ph_in1 (by omega) hb), ph_ix (k := b + r) (by omega), fhU_o (show 34 ≠ 76 by decide), fhI_o (show 34 ≠ 0 by decide), h2, if_neg (nI_ge (by omega) (by omega)), fhU_o (show 0 ≠ 76 by decide), fhI_e, ph_in (k := a + i) (by omega), ph_in (k := i) (by omega), decide_eq_true (show a + i < 1600 by omega), decide_eq_true (show i < 1700 by omega), if_pos (show (true && (true && true)) = true from rfl), ph_ix (k := a + i) (by omega), ph_ix (k := i) (by omega), fhU_o (show 35 ≠ 76 by decide), fhI_o (show 35 ≠ 0 by decide), h4 i c' hc', nI_1, nI_1, fhU_I, fhU_IO (by decide), fhI_I, wq_some, fhK_l]
    refine ⟨_, rfl, fun j c2 hj hc2 => ?_⟩
    (try dsimp only)
    by_cases q : j = i
    · rw [if_pos q]
      rw [q, hc'] at hc2
      cases hc2
      rfl
    · rw [if_neg q]
      exact hg j c2 (by omega) hc2
  · rintro x ⟨g, rfl, hg⟩
    (try dsimp only)
    unfold f_X12_loadsTest_12
    rw [if_pos (ph_in1 (by omega) hb), ph_ix (k := b + r) (by omega), fhU_o (show 34 ≠ 76 by decide), fhI_o (show 34 ≠ 0 by decide), h2, if_pos (nI_le (Nat.le_refl _) (by omega)), wq_some, fhK_r]
    refine ⟨g, rfl, by rw [fhU_o (by decide), fhI_e], fun j c' hc' => ?_⟩
    have hj := (List.getElem?_eq_some_iff.mp hc').1
    rw [fhU_e]
    exact hg j c' hj hc'
  · rw [fhU_id (fun _ => rfl)]
    rfl
