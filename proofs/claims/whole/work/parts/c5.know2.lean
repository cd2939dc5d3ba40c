/-! ANSWERS: who knows what another knows; a fact; a row left; what is worn -/
theorem bI_and (a b : Bool) : bI a &&& bI b = bI (a && b) := by cases a <;> cases b <;> decide
theorem bI_or (a b : Bool) : bI a ||| bI b = bI (a || b) := by cases a <;> cases b <;> decide
theorem bI_eq (a b : Bool) : (bI a = bI b) = (a = b) := by cases a <;> cases b <;> decide
theorem fhb_bI (a : Bool) : fhb a = bI a := by cases a <;> rfl
theorem bI_0' {b : Bool} (h : b = false) : bI b = 0 := by rw [h]; rfl
theorem bI_1' {b : Bool} (h : b = true) : bI b = 1 := by rw [h]; rfl
section
variable {W : gW} {L : Nat → Bool} {w0 rd : Nat}
/-- at every row, or at some row, that guest i holds for possible, guest j knows -/
def knA (W : gW) (T : Nat → Nat) (l : List Nat) (w0 i j : Nat) : Bool := l.foldl (fun b r => if W.vw r i = W.vw w0 i then b && (T r).testBit j else b) true
def knO (W : gW) (T : Nat → Nat) (l : List Nat) (w0 i j : Nat) : Bool := l.foldl (fun b r => if W.vw r i = W.vw w0 i then b || (T r).testBit j else b) false
theorem knA_s (W : gW) (T : Nat → Nat) (l : List Nat) (x w0 i j : Nat) : knA W T (l ++ [x]) w0 i j = if W.vw x i = W.vw w0 i then knA W T l w0 i j && (T x).testBit j else knA W T l w0 i j := by
  unfold knA
  rw [List.foldl_append]
  rfl
theorem knO_s (W : gW) (T : Nat → Nat) (l : List Nat) (x w0 i j : Nat) : knO W T (l ++ [x]) w0 i j = if W.vw x i = W.vw w0 i then knO W T l w0 i j || (T x).testBit j else knO W T l w0 i j := by
  unfold knO
  rw [List.foldl_append]
  rfl
def kno (W : gW) (l : List Nat) (w0 i j : Nat) : Int32 := if knA W (kb W l) l w0 i j = true then 1 else if knO W (kb W l) l w0 i j = true then 0 else 2
theorem c_knowsOf (hW : wOK W) {σ : fhM} (hrw : rwF W σ) (hg : gmF W L w0 rd σ) (hw0 : w0 ∈ rl W.N L) {i j : Nat} (hi : i < W.g) (hj : j < W.g) : f_X4_knowsOf (nI i) (nI j) σ = some (kno W (rl W.N L) w0 i j) := by
  obtain ⟨h8, h9, h10, h73, h75⟩ := hg
  have hg5 := hW.1
  have hN10 := hW.2.1
  have hll := rl_len W.N L
  have hwN := rl_lt _ hw0
  refine wq_eq ?_
  unfold f_X4_knowsOf
  refine wq_for (R := fun k x => x = (bI (knA W (kb W (rl W.N L)) ((rl W.N L).take k) w0 i j), bI (knO W (kb W (rl W.N L)) ((rl W.N L).take k) w0 i j), nI k)) 0 (rl W.N L).length (Nat.zero_le _) ?_ ?_ rfl
  · rintro k x - hk rfl
    (try dsimp only)
    unfold f_X4_knowsOf_8 f_X4_knowsOf_65 fhlet
    have hxm := getD_mem hk
    have hx := rl_lt _ hxm
    have k1 := kb_lt hW (rl W.N L) ((rl W.N L).getD k 0)
    rw [h8, if_neg (nI_ge hk (by omega)), cg72 (by omega), h73 k hk, nI_1 k, take_s hk, knA_s, knO_s]
    by_cases q : W.vw ((rl W.N L).getD k 0) i = W.vw w0 i
    · rw [if_pos (by rw [c_isRowOf hW hrw h9 hwN hx hi]; exact q), if_pos q, if_pos q, fcG_at (show fcL 74 = 1024 from rfl) (by omega) (by omega), h75 _ hxm, ph_bit (by omega) (by omega), nI_tb]
      dsimp only
      rw [bI_and, bI_or, wq_some, fhK_l]
    · rw [if_neg (by rw [c_isRowOf hW hrw h9 hwN hx hi]; exact q), if_neg q, if_neg q, wq_some, fhK_l]
  · rintro x rfl
    (try dsimp only)
    unfold f_X4_knowsOf_8 kno
    rw [h8, if_pos (nI_le (Nat.le_refl _) (by omega)), List.take_length]
    generalize knA W (kb W (rl W.N L)) (rl W.N L) w0 i j = a
    generalize knO W (kb W (rl W.N L)) (rl W.N L) w0 i j = o
    cases a <;> cases o <;> (repeat (first | rw [if_pos (by decide)] | rw [if_neg (by decide)])) <;> rw [wq_some, fhK_r]
def knwA (W : gW) (l : List Nat) (w0 : Nat) (v w : Int32) : Int32 := if inB v W.g ∧ inB w W.g ∧ v ≠ w then kno W l w0 v.toInt.toNat w.toInt.toNat else -1
theorem inB_e {v : Int32} {c : Nat} (h : inB v c) : v = nI v.toInt.toNat ∧ v.toInt.toNat < c := by
  obtain ⟨n, hn, e⟩ := inB_ex h
  obtain ⟨h1, h2⟩ := h
  obtain ⟨e2, a, b⟩ := iI_ex v
  refine ⟨?_, by omega⟩
  rw [← iI_n (by omega), Int.toNat_of_nonneg h1]
  exact e2
theorem c_knows (hW : wOK W) {σ : fhM} (hrw : rwF W σ) (hg : gmF W L w0 rd σ) (hw0 : 0 < W.g → w0 ∈ rl W.N L) (v w : Int32) : f_X11_knows v w σ = some (knwA W (rl W.N L) w0 v w) := by
  have hg5 := hW.1
  unfold f_X11_knows knwA
  by_cases q : inB v W.g ∧ inB w W.g ∧ v ≠ w
  · obtain ⟨e1, a1⟩ := inB_e q.1
    obtain ⟨e2, a2⟩ := inB_e q.2.1
    have e := c_knowsOf hW hrw hg (hw0 (by omega)) a1 a2
    rw [← e1, ← e2] at e
    rw [if_pos (by rw [c_isPr v w (by omega) hrw.1]; exact q), if_pos q, e]
    rfl
  · rw [if_neg (by rw [c_isPr v w (by omega) hrw.1]; exact q), if_neg q]
theorem m_knows37 (hW : wOK W) {σ : fhM} (hrw : rwM' W σ) (hL : lfM L σ) (h1 : σ.1 44 1 = nI w0) (ht : ∀ r, r < W.N → σ.1 46 r = nI (if L r = true then kb W (rl W.N L) r else 0)) (hw0 : w0 ∈ rl W.N L) {i j : Nat} (hi : i < W.g) (hj : j < W.g) : wq (fhlp (fun x => f_X12_knows_37 (nI i) (nI j) x.1 x.2.1 x.2.2 σ) ((0 : Int32), (1 : Int32), (0 : Int32))) (fun r => r = (kno W (rl W.N L) w0 i j, σ)) := by
  have hg5 := hW.1
  have hN10 := hW.2.1
  have hwN := rl_lt _ hw0
  have v2 := hW.2.2.2.2.2.1 w0 i hwN
  refine wq_for (R := fun k x => x = (bI (knO W (kb W (rl W.N L)) (rl k L) w0 i j), bI (knA W (kb W (rl W.N L)) (rl k L) w0 i j), nI k)) 0 W.N (Nat.zero_le _) ?_ ?_ rfl
  · rintro k x - hk rfl
    (try dsimp only)
    unfold f_X12_knows_37 f_X12_knows_111 f_X12_knows_122 f_X12_knows_127 f_X12_knows_142 f_X12_knows_143 f_X12_knows_145
    have v1 := hW.2.2.2.2.2.1 k i hk
    have k1 := kb_lt hW (rl W.N L) k
    rw [hrw.2.2.1, if_neg (nI_ge hk (by omega)), m_isLeft hL (by omega), wq_bind, wq_some, nI_1 k, rl_s]
    by_cases q : L k = true
    · rw [if_pos q, if_pos q, h1, show (1024 : Int32) = nI 1024 from rfl, pk_mul, nI_add, nI_add, ph_ix (k := 1024 * i + k) (by omega), ph_ix (k := 1024 * i + w0) (by omega), hrw.2.2.2 k i hk hi, hrw.2.2.2 w0 i hwN hi, ph_in (by omega), ph_in (by omega), decide_eq_true (show 1024 * i + k < 5120 by omega), decide_eq_true (show 1024 * i + w0 < 5120 by omega), if_pos (show (true && (true && true)) = true from rfl), knA_s, knO_s]
      by_cases q2 : W.vw k i = W.vw w0 i
      · rw [if_pos (by rw [q2]), if_pos q2, if_pos q2, if_pos (ph_in1 (by omega) (by omega)), ph_ix (by omega), ht k hk, if_pos q, ph_bit (by omega) (by omega), nI_tb]
        generalize (kb W (rl W.N L) k).testBit j = b
        generalize knA W (kb W (rl W.N L)) (rl k L) w0 i j = a
        generalize knO W (kb W (rl W.N L)) (rl k L) w0 i j = o
        cases a <;> cases o <;> cases b <;> (repeat (first | rw [if_pos (by decide)] | rw [if_neg (by decide)])) <;> rw [wq_some, fhK_l] <;> rfl
      · rw [if_neg (fun z => q2 ((nI_eq (by omega) (by omega)).mp z)), if_neg q2, if_neg q2, wq_some, fhK_l]
    · rw [if_neg q, if_neg q, wq_some, fhK_l]
  · rintro x rfl
    (try dsimp only)
    unfold f_X12_knows_37 kno
    rw [hrw.2.2.1, if_pos (nI_le (Nat.le_refl _) (by omega))]
    generalize knA W (kb W (rl W.N L)) (rl W.N L) w0 i j = a
    generalize knO W (kb W (rl W.N L)) (rl W.N L) w0 i j = o
    cases a <;> cases o <;> (repeat (first | rw [if_pos (by decide)] | rw [if_neg (by decide)])) <;> rw [wq_some, fhK_r]
theorem m_knows (hW : wOK W) {σ : fhM} (hrw : rwM' W σ) (hg : gmM W L w0 rd σ) (hw0 : 0 < W.g → w0 ∈ rl W.N L) (v w : Int32) : wq (f_X12_knows v w σ) (fun r => r.1 = knwA W (rl W.N L) w0 v w ∧ (r.2 = σ ∨ ∃ t u, r.2 = fhU (fhU σ 46 t) 42 u)) := by
  have hg5 := hW.1
  unfold f_X12_knows knwA
  by_cases q1 : inB v W.g
  · rw [if_pos (by rw [m_isG v (by omega) hrw.2.1]; exact q1)]
    by_cases q2 : inB w W.g
    · rw [if_pos (by rw [m_isG w (by omega) hrw.2.1]; exact q2)]
      by_cases q3 : v = w
      · rw [if_pos q3, wq_some, if_neg (fun z => z.2.2 q3)]
        exact ⟨rfl, Or.inl rfl⟩
      · rw [if_neg q3, if_pos ⟨q1, q2, q3⟩, wq_bind]
        obtain ⟨e1, a1⟩ := inB_e q1
        obtain ⟨e2, a2⟩ := inB_e q2
        refine wq_mono (m_laysKnowing hW hrw hg.1) (fun s z => ?_)
        obtain ⟨t, u, rfl, ht⟩ := z
        have e := m_knows37 hW (σ := fhU (fhU σ 46 t) 42 u) (rwM'_U (rwM'_U hrw (by decide) (by decide) (by decide)) (by decide) (by decide) (by decide)) (lfM_U (lfM_U hg.1 (by decide)) (by decide)) (by rw [fhU_o (by decide), fhU_o (by decide)]; exact hg.2.1) (fun r hr => by rw [fhU_o (by decide), fhU_e]; exact ht r hr) (hw0 (by omega)) a1 a2
        rw [← e1, ← e2] at e
        refine wq_mono e (fun r z => ?_)
        rw [z]
        exact ⟨rfl, Or.inr ⟨t, u, rfl⟩⟩
    · rw [if_neg (by rw [m_isG w (by omega) hrw.2.1]; exact q2), wq_some, if_neg (fun z => q2 z.2.1)]
      exact ⟨rfl, Or.inl rfl⟩
  · rw [if_neg (by rw [m_isG v (by omega) hrw.2.1]; exact q1), wq_some, if_neg (fun z => q1 z.1)]
    exact ⟨rfl, Or.inl rfl⟩
/-! a row left -/
def lftA (l : List Nat) (v : Int32) : Int32 := if inB v l.length then nI (l.getD v.toInt.toNat 0) else -1
theorem c_left (hW : wOK W) {σ : fhM} (hg : gmF W L w0 rd σ) (v : Int32) : f_X11_left v σ = lftA (rl W.N L) v := by
  have hN10 := hW.2.1
  have hll := rl_len W.N L
  unfold f_X11_left lftA
  rw [hg.1]
  by_cases q : inB v (rl W.N L).length
  · rw [if_pos q, if_neg (by rw [lt0_P]; have := q.1; omega), if_neg (by rw [le_nP v (by omega)]; have := q.2; omega)]
    obtain ⟨e, a⟩ := inB_e q
    have := hg.2.2.2.1 _ a
    rw [e, cg72 (by omega), ← e]
    exact this
  · rw [if_neg q]
    by_cases q2 : v.toInt < 0
    · rw [if_pos (by rw [lt0_P]; exact q2)]
    · rw [if_neg (by rw [lt0_P]; exact q2), if_pos (by rw [le_nP v (by omega)]; exact Int.not_lt.mp (fun z => q ⟨by omega, z⟩))]
theorem rl_pre {n k : Nat} {L : Nat → Bool} (hk : k ≤ n) : ∃ t, rl n L = rl k L ++ t := by
  induction n with
  | zero => exact ⟨[], by rw [show k = 0 by omega, List.append_nil]⟩
  | succ n ih =>
    by_cases q : k = n + 1
    · exact ⟨[], by rw [q, List.append_nil]⟩
    · obtain ⟨t, e⟩ := ih (by omega)
      rw [rl_s]
      by_cases q2 : L n = true
      · exact ⟨t ++ [n], by rw [if_pos q2, e, List.append_assoc]⟩
      · exact ⟨t, by rw [if_neg q2, e]⟩
theorem m_left (hW : wOK W) {σ : fhM} (h52 : σ.1 0 52 = nI W.N) (hL : lfM L σ) (v : Int32) : f_X12_left v σ = some (lftA (rl W.N L) v) := by
  have hN10 := hW.2.1
  have hll := rl_len W.N L
  refine wq_eq ?_
  unfold f_X12_left
  refine wq_for (R := fun k x => x = (nI (rl k L).length, nI k) ∧ ((0 : Int) ≤ v.toInt → ((rl k L).length : Int) ≤ v.toInt)) 0 W.N (Nat.zero_le _) ?_ ?_ ⟨rfl, fun h => h⟩
  · rintro k x - hk ⟨rfl, hb⟩
    (try dsimp only)
    unfold f_X12_left_4 f_X12_left_37
    have hlk := rl_len k L
    rw [h52, if_neg (nI_ge hk (by omega))]
    by_cases q0 : v.toInt < 0
    · rw [if_pos (by rw [lt0_P]; exact q0), wq_some, fhK_r]
      unfold lftA
      rw [if_neg (fun z => by have := z.1; omega)]
    · rw [if_neg (by rw [lt0_P]; exact q0), m_isLeft hL (by omega), wq_bind, wq_some, nI_1 k, rl_s]
      by_cases q : L k = true
      · rw [if_pos q, if_pos q]
        by_cases q2 : v.toInt = ((rl k L).length : Int)
        · have e : nI (rl k L).length = v := by
            obtain ⟨e, a, b⟩ := iI_ex v
            rw [e, q2, ← iI_n (by omega)]
          rw [if_pos e, wq_some, fhK_r]
          obtain ⟨t, et⟩ := rl_pre (n := W.N) (k := k + 1) (L := L) (by omega)
          rw [rl_s, if_pos q] at et
          unfold lftA
          rw [if_pos ⟨by omega, by rw [et, List.length_append, List.length_append, List.length_singleton]; omega⟩, et, q2, Int.toNat_natCast, List.getD_eq_getElem?_getD, List.append_assoc, List.getElem?_append_right (Nat.le_refl _), Nat.sub_self]
          rfl
        · rw [if_neg (fun z => q2 (by rw [← z, nI_toInt (by omega)])), wq_some, fhK_l, List.length_append, List.length_singleton, nI_1]
          exact ⟨rfl, fun h => by have := hb h; omega⟩
      · rw [if_neg q, if_neg q, wq_some, fhK_l]
        exact ⟨rfl, hb⟩
  · rintro x ⟨rfl, hb⟩
    (try dsimp only)
    unfold f_X12_left_4 lftA
    rw [h52, if_pos (nI_le (Nat.le_refl _) (by omega)), wq_some, fhK_r, if_neg (fun z => by have := hb z.1; have := z.2; omega)]
/-! what is worn -/
def wrsA (W : gW) (v w : Int32) : Int32 := if inB v W.N ∧ inB w W.g then nI (W.mk v.toInt.toNat w.toInt.toNat) else -1
theorem c_wears (hW : wOK W) {σ : fhM} (hrw : rwF W σ) (h11 : σ.1 39 11 = nI W.N) (v w : Int32) : f_X11_wears v w σ = wrsA W v w := by
  have hg5 := hW.1
  have hN10 := hW.2.1
  unfold f_X11_wears wrsA
  rw [h11]
  by_cases q : inB w W.g
  · rw [if_pos (by rw [c_isG w (by omega) hrw.1]; exact q)]
    by_cases q2 : v.toInt < 0
    · rw [if_pos (by rw [lt0_P]; exact q2), if_neg (fun z => by have := z.1.1; omega)]
    · rw [if_neg (by rw [lt0_P]; exact q2)]
      by_cases q3 : v.toInt < (W.N : Int)
      · have hv : inB v W.N := ⟨by omega, q3⟩
        obtain ⟨e1, a1⟩ := inB_e hv
        obtain ⟨e2, a2⟩ := inB_e q
        have e := c_markOf hW hrw a1 a2
        rw [← e1, ← e2] at e
        rw [if_pos (by rw [lt_nP v (by omega)]; exact q3), if_pos ⟨hv, q⟩, e]
      · rw [if_neg (by rw [lt_nP v (by omega)]; exact q3), if_neg (fun z => q3 z.1.2)]
  · rw [if_neg (by rw [c_isG w (by omega) hrw.1]; exact q), if_neg (fun z => q z.2)]
theorem m_wears (hW : wOK W) {σ : fhM} (hrw : rwM' W σ) (h47 : σ.1 0 47 = 0 → W.g = 0) (v w : Int32) : f_X12_wears v w σ = some (wrsA W v w) := by
  have hg5 := hW.1
  have hN10 := hW.2.1
  unfold f_X12_wears wrsA
  by_cases q0 : σ.1 0 47 = 0
  · rw [if_pos q0, if_neg (fun z => by have := z.2.1; have := z.2.2; have := h47 q0; omega)]
  · rw [if_neg q0, hrw.2.2.1]
    by_cases q : inB v W.N
    · rw [if_pos (by rw [m_inB v (by omega)]; exact q)]
      by_cases q2 : inB w W.g
      · obtain ⟨e1, a1⟩ := inB_e q
        obtain ⟨e2, a2⟩ := inB_e q2
        have e := mk_mo hW hrw a1 a2
        rw [← e1, ← e2] at e
        rw [if_pos (by rw [m_isG w (by omega) hrw.2.1]; exact q2), e, if_pos ⟨q, q2⟩]
        rfl
      · rw [if_neg (by rw [m_isG w (by omega) hrw.2.1]; exact q2), if_neg (fun z => q2 z.2)]
    · rw [if_neg (by rw [m_inB v (by omega)]; exact q), if_neg (fun z => q z.1)]
end
