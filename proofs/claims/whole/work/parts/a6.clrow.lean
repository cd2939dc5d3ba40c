/-! THE CLASS FILLS ITS LEAVES FROM A ROW -/
def rowm (m gn row : Nat) : List Nat := (List.range gn).map (fun i => row / m ^ i % m)
theorem rowm_s (m k row : Nat) : rowm m (k + 1) row = rowm m k row ++ [row / m ^ k % m] := by
  unfold rowm
  rw [List.range_succ, List.map_append]
  rfl
theorem rowm_len (m k row : Nat) : (rowm m k row).length = k := by unfold rowm; rw [List.length_map, List.length_range]
theorem rowm_lt {m k row : Nat} (hm : 0 < m) : ∀ x ∈ rowm m k row, x < m := by
  intro x hx
  unfold rowm at hx
  obtain ⟨i, _, rfl⟩ := List.mem_map.mp hx
  exact Nat.mod_lt _ hm
theorem rowm_at {m gn row i : Nat} (h : i < gn) : (rowm m gn row).getD i 0 = row / m ^ i % m := by
  unfold rowm
  rw [List.getD_eq_getElem?_getD, List.getElem?_map, List.getElem?_range h]
  rfl
def fsum (l : List Nat) : Nat := l.foldl (fun a x => a + x) 0
def ftop (l : List Nat) : Nat := l.foldl (fun a x => if a < x then x else a) 0
def flow (a : Nat) (l : List Nat) : Nat := l.foldl (fun a x => if x < a then x else a) a
def ct (l : List Nat) (j : Nat) : Nat := l.foldl (fun n x => if x = j then n + 1 else n) 0
def fkin (m : Nat) (l : List Nat) : Nat := (List.range m).foldl (fun n j => if ct l j = 0 then n else n + 1) 0
theorem fsum_s (l : List Nat) (x : Nat) : fsum (l ++ [x]) = fsum l + x := by unfold fsum; rw [List.foldl_append]; rfl
theorem ftop_s (l : List Nat) (x : Nat) : ftop (l ++ [x]) = if ftop l < x then x else ftop l := by unfold ftop; rw [List.foldl_append]; rfl
theorem flow_s (a : Nat) (l : List Nat) (x : Nat) : flow a (l ++ [x]) = if x < flow a l then x else flow a l := by unfold flow; rw [List.foldl_append]; rfl
theorem ct_s (l : List Nat) (x j : Nat) : ct (l ++ [x]) j = if x = j then ct l j + 1 else ct l j := by unfold ct; rw [List.foldl_append]; rfl
theorem fkin_s (m : Nat) (l : List Nat) : fkin (m + 1) l = if ct l m = 0 then fkin m l else fkin m l + 1 := by unfold fkin; rw [List.range_succ, List.foldl_append]; rfl
theorem fkin_le (m : Nat) (l : List Nat) : fkin m l ≤ m := by
  induction m with
  | zero => exact Nat.le_refl 0
  | succ m ih => rw [fkin_s]; split <;> omega
theorem rowm_b {m row : Nat} (hm : 2 ≤ m ∧ m ≤ 4) : ∀ k, k ≤ 5 → fsum (rowm m k row) ≤ 3 * k ∧ ftop (rowm m k row) ≤ 3 ∧ (∀ j, ct (rowm m k row) j ≤ k) ∧ ∀ j, m ≤ j → ct (rowm m k row) j = 0 := by
  intro k
  induction k with
  | zero => intro _; exact ⟨Nat.le_refl 0, by show 0 ≤ 3; decide, fun j => Nat.le_refl 0, fun j _ => rfl⟩
  | succ k ih =>
    intro hk
    obtain ⟨a, b, c, d⟩ := ih (by omega)
    have hx : row / m ^ k % m < m := Nat.mod_lt _ (by omega)
    rw [rowm_s, fsum_s, ftop_s]
    refine ⟨by omega, by split <;> omega, fun j => ?_, fun j hj => ?_⟩
    · rw [ct_s]
      have := c j
      split <;> omega
    · rw [ct_s, if_neg (by omega)]
      exact d j hj
theorem flow_any {l : List Nat} {a b : Nat} (hl : l ≠ []) (ha : ∀ x ∈ l, x ≤ a) (hb : ∀ x ∈ l, x ≤ b) : flow a l = flow b l := by
  cases l with
  | nil => exact absurd rfl hl
  | cons x r =>
    have h1 := ha x List.mem_cons_self
    have h2 := hb x List.mem_cons_self
    have e : ∀ c, x ≤ c → (if x < c then x else c) = x := by
      intro c hc
      split <;> omega
    show r.foldl _ (if x < a then x else a) = r.foldl _ (if x < b then x else b)
    rw [e a h1, e b h2]
theorem foldl_ge {l : List Nat} : ∀ a, a ≤ l.foldl (fun a x => if a < x then x else a) a ∧ ∀ x ∈ l, x ≤ l.foldl (fun a x => if a < x then x else a) a := by
  induction l with
  | nil => intro a; exact ⟨Nat.le_refl a, fun x hx => by cases hx⟩
  | cons y r ih =>
    intro a
    obtain ⟨h1, h2⟩ := ih (if a < y then y else a)
    have h3 : a ≤ (if a < y then y else a) ∧ y ≤ (if a < y then y else a) := by split <;> omega
    refine ⟨Nat.le_trans h3.1 h1, fun x hx => ?_⟩
    rcases List.mem_cons.mp hx with rfl | hx
    · exact Nat.le_trans h3.2 h1
    · exact h2 x hx
theorem ftop_ge {l : List Nat} : ∀ x ∈ l, x ≤ ftop l := (foldl_ge 0).2
/-- the leaves of a row of marks -/
def lfR (l : List Nat) (i : Nat) : Int := if i < 5 then (l.getD i 0 : Nat) else if i = 5 then (fsum l : Nat) else if i = 6 then (ftop l : Nat) else if i = 7 then (flow (ftop l) l : Nat) else (fkin 4 l : Nat)
def lkR (l : List Nat) (_ : Nat) (n : Int) : Int := if 0 ≤ n then (ct l n.toNat : Nat) else 0
theorem flow_le {l : List Nat} : ∀ a, flow a l ≤ a := by
  induction l with
  | nil => intro a; exact Nat.le_refl a
  | cons y r ih =>
    intro a
    refine Nat.le_trans (ih _) ?_
    show (if y < a then y else a) ≤ a
    split <;> omega
theorem fkin_m {m row gn : Nat} (hm : 2 ≤ m ∧ m ≤ 4) (hg : gn ≤ 5) : fkin m (rowm m gn row) = fkin 4 (rowm m gn row) := by
  obtain ⟨_, _, _, d⟩ := rowm_b (row := row) hm gn hg
  have : m = 2 ∨ m = 3 ∨ m = 4 := by omega
  rcases this with rfl | rfl | rfl
  · rw [fkin_s 3, fkin_s 2, d 3 (by decide), d 2 (by decide), if_pos rfl, if_pos rfl]
  · rw [fkin_s 3, d 3 (by decide), if_pos rfl]
  · rfl
theorem fcW_U {σ : fhM} {t N : Nat} (hN : fcL t = N) : fcW σ t = fhU σ (t + 1) (fun j => if j < N then 0 else σ.1 (t + 1) j) := by
  refine fhM_ext (fun a j => ?_) rfl
  rw [fcW_r hN]
  by_cases h : a = t + 1
  · subst h
    rw [fhU_e]
    by_cases hj : j < N
    · rw [if_pos ⟨rfl, hj⟩, if_pos hj]
    · rw [if_neg (fun q => hj q.2), if_neg hj]
  · rw [fhU_o h, if_neg (fun q => h q.1)]
theorem lp {σ : fhM} {t : Nat → Int32} {k : Nat} {v : Int32} (h : k < 30) : fcP (fhU σ 12 t) 11 (nI k) v = fhU σ 12 (fun j => if j = k then v else t j) := by rw [cp11 h, fhU_I]
theorem lg {σ : fhM} {t : Nat → Int32} {k : Nat} (h : k < 30) : fcG (fhU σ 12 t) 11 (nI k) = t k := by rw [cg11 h, fhU_e]
/-- the leaves' table -/
def lvT (l : List Nat) (t : Nat → Int32) : Prop := (∀ i, i < l.length → t i = nI (l.getD i 0)) ∧ ∀ j, j < 5 → t (15 + j) = nI (ct l j)
theorem lvT_add {l : List Nat} {x : Nat} {t : Nat → Int32} (h : lvT l t) (hl : l.length < 5) (hx : x < 4) : lvT (l ++ [x]) (fun j => if j = 15 + x then nI (ct l x + 1) else if j = l.length then nI x else t j) := by
  refine ⟨fun i hi => ?_, fun j hj => ?_⟩
  · rw [List.length_append, List.length_singleton] at hi
    dsimp only
    rw [if_neg (by omega)]
    by_cases q : i = l.length
    · rw [if_pos q, q, List.getD_eq_getElem?_getD, List.getElem?_append_right (Nat.le_refl _), Nat.sub_self]
      rfl
    · rw [if_neg q, h.1 i (by omega), List.getD_eq_getElem?_getD, List.getD_eq_getElem?_getD, List.getElem?_append_left (by omega)]
  · dsimp only
    rw [ct_s]
    by_cases q : x = j
    · rw [if_pos (by omega), if_pos q, q]
    · rw [if_neg (by omega), if_neg (by omega), if_neg q]
      exact h.2 j hj
theorem c_kinds {m gn row : Nat} (hm : 2 ≤ m ∧ m ≤ 4) (hg : gn ≤ 5) {σ : fhM} {t : Nat → Int32} (h : ∀ j, j < 5 → t (15 + j) = nI (ct (rowm m gn row) j)) : wq (f_X10_countKinds (nI m) (fhU σ 12 t)) (fun r => r = nI (fkin m (rowm m gn row))) := by
  obtain ⟨_, _, hc, _⟩ := rowm_b (row := row) hm gn hg
  unfold f_X10_countKinds
  refine wq_for (R := fun i x => x = (nI (fkin i (rowm m gn row)), nI i)) 0 m (Nat.zero_le _) ?_ ?_ rfl
  · rintro i x - hi rfl
    (try dsimp only)
    unfold f_X10_countKinds_4 f_X10_countKinds_29
    have := hc i
    rw [if_neg (nI_ge hi (by omega)), show (15 : Int32) = nI 15 from rfl, nI_add, lg (by omega), h i (by omega), wq_some, fhK_l, nI_1, fkin_s]
    by_cases q : ct (rowm m gn row) i = 0
    · rw [if_pos (show nI (ct (rowm m gn row) i) ≤ 0 by rw [nI_le0 (by omega)]; exact q), if_pos q, ph_0, nI_add]
      rfl
    · rw [if_neg (show ¬ nI (ct (rowm m gn row) i) ≤ 0 by rw [nI_le0 (by omega)]; exact q), if_neg q, nI_1]
  · rintro x rfl
    (try dsimp only)
    unfold f_X10_countKinds_4
    rw [if_pos (nI_le (Nat.le_refl _) (by omega)), wq_some, fhK_r]
theorem c_fill {m gn row : Nat} (hm : 2 ≤ m ∧ m ≤ 4) (hg : gn ≤ 5) (hrow : row < 2 ^ 31) (σ : fhM) : wq (f_X10_fillFromRow (nI row) (nI m) (nI gn) σ) (fun s => ∃ t, s = fhU σ 12 t ∧ lvF false gn (lfR (rowm m gn row)) (lkR (rowm m gn row)) s) := by
  unfold f_X10_fillFromRow f_X10_fillFromRow_25
  obtain ⟨t0, ht0, hz⟩ : ∃ t0, fcW σ 11 = fhU σ 12 t0 ∧ ∀ j, j < 30 → t0 j = 0 := ⟨_, fcW_U (t := 11) (N := 30) rfl, fun j hj => if_pos hj⟩
  rw [ht0]
  obtain ⟨a0, ha0, hb0⟩ : ∃ a0, (if nI gn ≤ 0 then (0 : Int32) else nI m) = nI a0 ∧ a0 ≤ 4 ∧ (gn = 0 → a0 = 0) ∧ (gn ≠ 0 → a0 = m) := by
    by_cases q : gn = 0
    · exact ⟨0, by rw [if_pos (by rw [nI_le0 (by omega)]; exact q)]; rfl, by omega, fun _ => rfl, fun z => absurd q z⟩
    · exact ⟨m, by rw [if_neg (by rw [nI_le0 (by omega)]; exact q)], by omega, fun z => absurd z q, fun _ => rfl⟩
  rw [ha0]
  refine wq_for (R := fun k x => ∃ t, x = (nI (row / m ^ k), nI (fsum (rowm m k row)), nI (ftop (rowm m k row)), nI (flow a0 (rowm m k row)), nI k, fhU σ 12 t) ∧ lvT (rowm m k row) t) 0 gn (Nat.zero_le _) ?_ ?_ ⟨t0, ?_, fun i hi => (by cases hi), fun j hj => hz _ (by omega)⟩
  · rintro k x - hk ⟨t, rfl, ht⟩
    (try dsimp only)
    unfold f_X10_fillFromRow_30
    obtain ⟨b1, b2, b3, b4⟩ := rowm_b (row := row) hm k (by omega)
    have b5 := flow_le (l := rowm m k row) a0
    have hq : row / m ^ k ≤ row := Nat.div_le_self _ _
    have hx : row / m ^ k % m < m := Nat.mod_lt _ (by omega)
    have ex : fhrem (nI (row / m ^ k)) (nI m) = nI (row / m ^ k % m) := ph_rem (by omega) (by omega) (by omega)
    have hlen := rowm_len m k row
    have hct := b3 (row / m ^ k % m)
    rw [if_neg (nI_ge hk (by omega)), if_neg (nI_nle (by omega) (by omega)), ph_nz (by omega) (by omega), if_pos (show (true && (true && true)) = true from rfl), ex, pk_div (by omega) (by omega) (by omega), Nat.div_div_eq_div_mul, ← Nat.pow_succ, rowm_s, fsum_s, ftop_s, flow_s]
    have hadd := lvT_add ht (by omega) (show row / m ^ k % m < 4 by omega)
    generalize row / m ^ k % m = x at *
    rw [lp (by omega), show (15 : Int32) = nI 15 from rfl, nI_add, lg (by omega), if_neg (show ¬ 15 + x = k by omega), lp (by omega), ht.2 x (by omega), nI_1, nI_1, nI_add]
    unfold fhlet f_J9_max_7cf53 f_J9_min_7cf53
    rw [wq_some, fhK_l]
    refine ⟨_, ?_, hadd⟩
    have e1 : (if nI (ftop (rowm m k row)) < nI x then nI x else nI (ftop (rowm m k row))) = nI (if ftop (rowm m k row) < x then x else ftop (rowm m k row)) := by
      by_cases q : ftop (rowm m k row) < x
      · rw [if_pos q, if_pos (nI_lt q (by omega))]
      · rw [if_neg q, if_neg (nI_nlt (by omega) (by omega))]
    have e2 : (if nI x < nI (flow a0 (rowm m k row)) then nI x else nI (flow a0 (rowm m k row))) = nI (if x < flow a0 (rowm m k row) then x else flow a0 (rowm m k row)) := by
      by_cases q : x < flow a0 (rowm m k row)
      · rw [if_pos q, if_pos (nI_lt q (by omega))]
      · rw [if_neg q, if_neg (nI_nlt (by omega) (by omega))]
    rw [e1, e2, hlen]
  · rintro x ⟨t, rfl, ht⟩
    (try dsimp only)
    unfold f_X10_fillFromRow_30
    obtain ⟨b1, b2, b3, b4⟩ := rowm_b (row := row) hm gn hg
    have b5 := flow_le (l := rowm m gn row) a0
    have hlen := rowm_len m gn row
    rw [if_pos (nI_le (Nat.le_refl _) (by omega)), wq_map]
    unfold f_X10_fillFromRow_120
    rw [show (5 : Int32) = nI 5 from rfl, show (6 : Int32) = nI 6 from rfl, show (7 : Int32) = nI 7 from rfl, show (8 : Int32) = nI 8 from rfl, lp (by decide), lp (by decide), lp (by decide), wq_bind]
    refine wq_mono (c_kinds (row := row) hm hg (fun j hj => ?_)) (fun r hr => ?_)
    · rw [if_neg (by omega), if_neg (by omega), if_neg (by omega)]
      exact ht.2 j hj
    subst hr
    rw [lp (by decide), wq_some, fhK_r]
    have hlow : flow a0 (rowm m gn row) = flow (ftop (rowm m gn row)) (rowm m gn row) := by
      by_cases q : gn = 0
      · subst q
        rw [hb0.2.1 rfl]
        rfl
      · refine flow_any (fun z => ?_) (fun x hx => ?_) ftop_ge
        · rw [z] at hlen; cases gn with
          | zero => exact q rfl
          | succ n => cases hlen
        · have := rowm_lt (by omega) x hx
          have := hb0.2.2 q
          omega
    rw [fkin_m hm hg, hlow]
    have hk4 := fkin_le 4 (rowm m gn row)
    have b6 := flow_le (l := rowm m gn row) (ftop (rowm m gn row))
    refine ⟨_, rfl, fun i hi => ?_, fun b n hb hn => ?_⟩
    · have hi : (decide (i < gn) || (decide (5 ≤ i) && decide (i ≤ 8))) = true := hi
      simp only [Bool.or_eq_true, Bool.and_eq_true, decide_eq_true_eq] at hi
      rw [lg (by omega)]
      unfold lfR
      by_cases q : i < 5
      · have hig : i < gn := by omega
        have hv : (rowm m gn row).getD i 0 < m := by rw [rowm_at hig]; exact Nat.mod_lt _ (by omega)
        rw [if_pos q, if_neg (by omega), if_neg (by omega), if_neg (by omega), if_neg (by omega), ht.1 i (by omega), iI_n (by omega)]
        exact ⟨rfl, by unfold bnd; omega⟩
      · have : i = 5 ∨ i = 6 ∨ i = 7 ∨ i = 8 := by omega
        rcases this with rfl | rfl | rfl | rfl
        · rw [if_neg (by decide), if_neg (by decide), if_neg (by decide), if_pos rfl, if_neg (by decide), if_pos rfl, iI_n (by omega)]
          exact ⟨rfl, by unfold bnd; omega⟩
        · rw [if_neg (by decide), if_neg (by decide), if_pos rfl, if_neg (by decide), if_neg (by decide), if_pos rfl, iI_n (by omega)]
          exact ⟨rfl, by unfold bnd; omega⟩
        · rw [if_neg (by decide), if_pos rfl, if_neg (by decide), if_neg (by decide), if_neg (by decide), if_pos rfl, iI_n (by omega)]
          exact ⟨rfl, by unfold bnd; omega⟩
        · rw [if_pos rfl, if_neg (by decide), if_neg (by decide), if_neg (by decide), if_neg (by decide), iI_n (by omega)]
          exact ⟨rfl, by unfold bnd; omega⟩
    · have hb : decide (b = 15) = true := hb
      have hb := of_decide_eq_true hb
      subst hb
      unfold lkR
      by_cases q : 0 ≤ n
      · rw [if_pos q]
        have hc := b3 n.toNat
        refine ⟨by unfold bnd; omega, ?_⟩
        by_cases q2 : n < 5
        · rw [if_pos ⟨q, q2⟩, iI_n (by omega)]
          have en : iI n = nI n.toNat := by rw [← iI_n (by omega), Int.toNat_of_nonneg q]
          rw [en, nI_add, lg (by omega), if_neg (by omega), if_neg (by omega), if_neg (by omega), if_neg (by omega), ht.2 _ (by omega)]
        · rw [if_neg (fun z => q2 z.2), b4 n.toNat (by omega)]
          rfl
      · rw [if_neg q, if_neg (fun z => q z.1)]
        exact ⟨by unfold bnd; omega, rfl⟩
  · rw [Nat.pow_zero, Nat.div_one]
    rfl
