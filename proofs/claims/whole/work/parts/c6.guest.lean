/-! ANSWERS: a guest; a fact -/
section
variable {W : gW} {L : Nat → Bool} {w0 rd : Nat}
def gstV (W : gW) (l : List Nat) (w0 i : Nat) (w : Int32) : Int32 := if w = 0 then nI (W.mk w0 i) else if w = 1 then nI (W.sb i) else if w = 2 then nI (cnv W l i (W.vw w0 i)) else if w = 3 then bI (one (msk W l i (W.vw w0 i))) else if w = 4 then nI (msk W l i (W.vw w0 i)) else -1
def gstA (W : gW) (l : List Nat) (w0 : Nat) (v w : Int32) : Int32 := if inB v W.g then gstV W l w0 v.toInt.toNat w else -1
theorem c_isKn (hW : wOK W) {σ : fhM} (hg : gmF W L w0 rd σ) (hw0 : w0 ∈ rl W.N L) {i : Nat} (hi : i < W.g) : f_X11_one (fhb (f_X4_isKnower (nI i) σ)) σ = bI (one (msk W (rl W.N L) i (W.vw w0 i))) := by
  have hg5 := hW.1
  have k1 := kb_lt hW (rl W.N L) w0
  unfold f_X11_one f_X4_isKnower
  rw [c_knowers hW hg hw0, ph_bit (by omega) (by omega), nI_tb, show (kb W (rl W.N L) w0).testBit i = (decide (i < W.g) && one (msk W (rl W.N L) i (W.vw w0 i))) from kbN_bit W _ w0 W.g i, decide_eq_true hi, Bool.true_and]
  generalize one (msk W (rl W.N L) i (W.vw w0 i)) = b
  cases b <;> (repeat (first | rw [if_pos (by decide)] | rw [if_neg (by decide)])) <;> rfl
theorem c_guest (hW : wOK W) {σ : fhM} (hrw : rwF W σ) (hg : gmF W L w0 rd σ) (h51 : ∀ i, i < W.g → σ.1 51 i = nI (W.sb i)) (hw0 : 0 < W.g → w0 ∈ rl W.N L) (v w : Int32) : f_X11_guest v w σ = some (gstA W (rl W.N L) w0 v w) := by
  have hg5 := hW.1
  have h9 := hg.2.1
  refine wq_eq ?_
  unfold f_X11_guest gstA
  by_cases q : inB v W.g
  · obtain ⟨e, a⟩ := inB_e q
    have hw := hw0 (by omega)
    have hwN := rl_lt _ hw
    rw [if_pos (by rw [c_isG v (by omega) hrw.1]; exact q), if_pos q]
    generalize v.toInt.toNat = i at e a
    rw [e]
    unfold gstV
    rw [h9, c_markOf hW hrw hwN a, cg50 (by omega), h51 i a, c_countRowsOf hW hrw hg hwN a, c_isKn hW hg hw a, c_marksHeld hW hrw hg hwN a]
    by_cases q0 : w = 0
    · rw [if_pos q0, if_pos q0, wq_some]
    rw [if_neg q0, if_neg q0]
    by_cases q1 : w = 1
    · rw [if_pos q1, if_pos q1, wq_some]
    rw [if_neg q1, if_neg q1]
    by_cases q2 : w = 2
    · rw [if_pos q2, if_pos q2, wq_bind, wq_some, wq_some]
    rw [if_neg q2, if_neg q2]
    by_cases q3 : w = 3
    · rw [if_pos q3, if_pos q3, wq_some]
    rw [if_neg q3, if_neg q3]
    by_cases q4 : w = 4
    · rw [if_pos q4, if_pos q4, wq_bind, wq_some, wq_some]
    rw [if_neg q4, if_neg q4, wq_some]
  · rw [if_neg (by rw [c_isG v (by omega) hrw.1]; exact q), if_neg q, wq_some]
theorem m_guest (hW : wOK W) {σ : fhM} (hrw : rwM' W σ) (hg : gmM W L w0 rd σ) (h32 : ∀ i, i < W.g → σ.1 32 (5 + i) = nI (W.sb i)) (hw0 : 0 < W.g → w0 ∈ rl W.N L) (v w : Int32) : wq (f_X12_guest v w σ) (fun r => r.1 = gstA W (rl W.N L) w0 v w ∧ (r.2 = σ ∨ ∃ k x y, r.2 = fhI (fhI σ 47 k x) 48 k y)) := by
  have hg5 := hW.1
  have hN10 := hW.2.1
  unfold f_X12_guest gstA
  by_cases q : inB v W.g
  · obtain ⟨e, a⟩ := inB_e q
    have hw := hw0 (by omega)
    have hwN := rl_lt _ hw
    rw [if_pos (by rw [m_isG v (by omega) hrw.2.1]; exact q), if_pos q]
    generalize v.toInt.toNat = i at e a
    rw [e, wq_bind]
    refine wq_mono (m_laysOwn hW hrw hg.1 hg.2.1 hwN a) (fun s z => ?_)
    have hm : msk W (rl W.N L) i (W.vw w0 i) < 16 := msk_lt (fun r hr => hW.2.2.2.2.1 r i (rl_lt _ hr))
    have e1 : s.1 44 1 = nI w0 := by rw [z, fhI_o (by decide), fhI_o (by decide)]; exact hg.2.1
    have e2 : s.1 32 (5 + i) = nI (W.sb i) := by rw [z, fhI_o (by decide), fhI_o (by decide)]; exact h32 i a
    have e3 : s.1 47 i = nI (cnv W (rl W.N L) i (W.vw w0 i)) := by rw [z, fhI_o (by decide), fhI_e]
    have e4 : s.1 48 i = nI (msk W (rl W.N L) i (W.vw w0 i)) := by rw [z, fhI_e]
    have e5 : rwM' W s := by rw [z]; exact rwM'_I (rwM'_I hrw (by decide) (Or.inl (by decide)) (by decide)) (by decide) (Or.inl (by decide)) (by decide)
    have fin : s = σ ∨ ∃ k x y, s = fhI (fhI σ 47 k x) 48 k y := Or.inr ⟨_, _, _, z⟩
    unfold gstV
    rw [e1, mk_mo hW e5 hwN a, show (5 : Int32) = nI 5 from rfl, nI_add, ph_ix (k := 5 + i) (by omega), ph_ix (k := i) (by omega), e2, e3, e4, if_pos (show (fhin (nI (5 + i)) 10 && true) = true from ph_in1 (by omega) (by omega)), m_isOne (by omega)]
    by_cases q0 : w = 0
    · rw [if_pos q0, if_pos q0, wq_bind, wq_some, wq_some]
      exact ⟨rfl, fin⟩
    rw [if_neg q0, if_neg q0]
    by_cases q1 : w = 1
    · rw [if_pos q1, if_pos q1, wq_some]
      exact ⟨rfl, fin⟩
    rw [if_neg q1, if_neg q1]
    by_cases q2 : w = 2
    · rw [if_pos q2, if_pos q2, if_pos (show (fhin (nI i) 5 && true) = true from ph_in1 (by omega) (by omega)), wq_some]
      exact ⟨rfl, fin⟩
    rw [if_neg q2, if_neg q2]
    by_cases q3 : w = 3
    · rw [if_pos q3, if_pos q3, if_pos (show (fhin (nI i) 5 && true) = true from ph_in1 (by omega) (by omega))]
      cases one (msk W (rl W.N L) i (W.vw w0 i)) with
      | true => rw [if_pos rfl, wq_some]; exact ⟨rfl, fin⟩
      | false => rw [if_neg (by decide), wq_some]; exact ⟨rfl, fin⟩
    rw [if_neg q3, if_neg q3]
    by_cases q4 : w = 4
    · rw [if_pos q4, if_pos q4, if_pos (show (fhin (nI i) 5 && true) = true from ph_in1 (by omega) (by omega)), wq_some]
      exact ⟨rfl, fin⟩
    rw [if_neg q4, if_neg q4, wq_some]
    exact ⟨rfl, fin⟩
  · rw [if_neg (by rw [m_isG v (by omega) hrw.2.1]; exact q), if_neg q, wq_some]
    exact ⟨rfl, Or.inl rfl⟩
/-! a fact -/
def fctV (W : gW) (L : Nat → Bool) (w0 k : Nat) (w : Int32) : Int32 := if w = 0 then bI ((W.tr w0).testBit k) else if w = 1 then nI (cnP (rl W.N L) (alk W.tr (2 ^ k) w0)) else if w = 2 then nI (cnP (rl W.N W.al) (fun r => (W.tr r).testBit k)) else -1
def fctA (W : gW) (L : Nat → Bool) (w0 : Nat) (v w : Int32) : Int32 := if inB v W.F then fctV W L w0 v.toInt.toNat w else -1
theorem c_hin (hW : wOK W) {σ : fhM} (htr : ∀ r, r < W.N → W.al r = true → σ.1 53 r = nI (W.tr r)) {r k : Nat} (hr : r < W.N) (ha : W.al r = true) (hk : k < W.F) : (f_X9_holdsIn (nI r) (nI k) σ) = (W.tr r).testBit k := by
  have hN10 := hW.2.1
  have hF := hW.2.2.1
  have ht := hW.2.2.2.2.2.2.2.1 r
  have h256 := pF hW
  unfold f_X9_holdsIn
  rw [cg52 (by omega), htr r hr ha, ph_bit (by omega) (by omega), nI_tb]
  cases (W.tr r).testBit k <;> (repeat (first | rw [if_pos (by decide)] | rw [if_neg (by decide)]))
theorem c_cntH (hW : wOK W) {σ : fhM} (htb : tbF W W.N σ) {k : Nat} (hk : k < W.F) : f_X9_countHolding (nI k) σ = some (nI (cnP (rl W.N W.al) (fun r => (W.tr r).testBit k))) := by
  have hN10 := hW.2.1
  have hll := rl_len W.N W.al
  have htr := htb.2.2.2.2.2.2.2.2.2.2.1
  have h55 := htb.2.2.2.2.2.2.2.2.2.2.2
  have h12 := htb.2.2.2.2.1
  refine wq_eq ?_
  unfold f_X9_countHolding
  refine wq_for (R := fun j x => x = (nI (cnP ((rl W.N W.al).take j) (fun r => (W.tr r).testBit k)), nI j)) 0 (rl W.N W.al).length (Nat.zero_le _) ?_ ?_ rfl
  · rintro j x - hj rfl
    (try dsimp only)
    unfold f_X9_countHolding_4 f_X9_countHolding_34
    have hxm := getD_mem hj
    obtain ⟨x1, x2⟩ := rl_mem.mp hxm
    rw [h12, if_neg (nI_ge hj (by omega)), cg54 (by omega), h55 j hj, c_hin hW htr x1 x2 hk, wq_some, fhK_l, nI_1 j, take_s hj, cnP_s]
    by_cases q : (W.tr ((rl W.N W.al).getD j 0)).testBit k = true
    · rw [if_pos q, if_pos q, nI_1]
    · rw [if_neg q, if_neg q, ph_0, nI_add]
      rfl
  · rintro x rfl
    (try dsimp only)
    unfold f_X9_countHolding_4
    rw [h12, if_pos (nI_le (Nat.le_refl _) (by omega)), List.take_length, wq_some, fhK_r]
theorem c_fact (hW : wOK W) {σ : fhM} (htb : tbF W W.N σ) (hg : gmF W L w0 rd σ) (hLa : ∀ r, L r = true → W.al r = true) (hw0 : 0 < W.F → w0 ∈ rl W.N L) (v w : Int32) : f_X11_fact v w σ = some (fctA W L w0 v w) := by
  have hF := hW.2.2.1
  have h9 := hg.2.1
  have h10 := htb.2.2.1
  have htr := htb.2.2.2.2.2.2.2.2.2.2.1
  refine wq_eq ?_
  unfold f_X11_fact fctA
  by_cases q : inB v W.F
  · obtain ⟨e, a⟩ := inB_e q
    have hw := hw0 (by omega)
    have hwN := rl_lt _ hw
    have hwL := (rl_mem.mp hw).2
    rw [if_pos (by rw [c_isFt v (by omega) h10]; exact q), if_pos q]
    generalize v.toInt.toNat = i at e a
    have hp : 2 ^ i ≤ 2 ^ 8 := Nat.pow_le_pow_right (by decide) (by omega)
    have ec := c_countAlike (tb := 52) (mask := 2 ^ i) (T := W.tr) hW hg hw rfl (fun r hr => htr r (rl_lt _ hr) (hLa r (rl_mem.mp hr).2)) (by omega)
    rw [e]
    unfold fctV f_X11_one
    rw [h9, c_hin hW htr hwN (hLa w0 hwL) a, ph_shl1 (by omega), ec, c_cntH hW htb a]
    by_cases q0 : w = 0
    · rw [if_pos q0, if_pos q0]
      cases (W.tr w0).testBit i with
      | true => rw [if_neg (by decide), wq_some]; rfl
      | false => rw [if_pos (by decide), wq_some]; rfl
    rw [if_neg q0, if_neg q0]
    by_cases q1 : w = 1
    · rw [if_pos q1, if_pos q1, wq_bind, wq_some, wq_some]
    rw [if_neg q1, if_neg q1]
    by_cases q2 : w = 2
    · rw [if_pos q2, if_pos q2, wq_bind, wq_some, wq_some]
    rw [if_neg q2, if_neg q2, wq_some]
  · rw [if_neg (by rw [c_isFt v (by omega) h10]; exact q), if_neg q, wq_some]
theorem m_holds (hW : wOK W) {σ : fhM} (h38 : ∀ r, r < W.N → σ.1 38 r = nI (W.tr r)) {r k : Nat} (hr : r < W.N) (hk : k < W.F) : f_X12_doesHold (nI r) (nI k) σ = some ((W.tr r).testBit k) := by
  have hN10 := hW.2.1
  have hF := hW.2.2.1
  have ht := hW.2.2.2.2.2.2.2.1 r
  have h256 := pF hW
  unfold f_X12_doesHold
  rw [if_pos (ph_in1 (by omega) (by omega)), ph_ix (by omega), h38 r hr, ph_bit (by omega) (by omega), nI_tb]
  cases (W.tr r).testBit k <;> (repeat (first | rw [if_pos (by decide)] | rw [if_neg (by decide)]))
theorem bit_and8 : ∀ a, a < 256 → ∀ b, b < 256 → ∀ i, i < 8 → ((a.testBit i = b.testBit i) ↔ a &&& 2 ^ i = b &&& 2 ^ i) := by
  intro a _ b _ i _
  constructor
  · intro h
    apply Nat.eq_of_testBit_eq
    intro j
    rw [Nat.testBit_and, Nat.testBit_and, Nat.testBit_two_pow]
    by_cases q : i = j
    · rw [← q, h]
    · rw [decide_eq_false q, Bool.and_false, Bool.and_false]
  · intro h
    have := congrArg (fun z => z.testBit i) h
    rw [Nat.testBit_and, Nat.testBit_and, Nat.testBit_two_pow, decide_eq_true rfl, Bool.and_true, Bool.and_true] at this
    exact this
theorem m_factA (hW : wOK W) {σ : fhM} (hrw : rwM' W σ) (hF8 : σ.1 29 8 = nI W.F) (hg : gmM W L w0 rd σ) (h38 : ∀ r, r < W.N → σ.1 38 r = nI (W.tr r)) (h37 : ∀ r, r < W.N → σ.1 37 r = nI (if W.al r = true then 1 else 0)) (hw0 : 0 < W.F → w0 ∈ rl W.N L) (v w : Int32) : f_X12_fact v w σ = some (fctA W L w0 v w) := by
  have hF := hW.2.2.1
  have hN10 := hW.2.1
  have h1 := hg.2.1
  have h256 := pF hW
  have h52 := hrw.2.2.1
  refine wq_eq ?_
  unfold f_X12_fact fctA
  by_cases q : inB v W.F
  · obtain ⟨e, a⟩ := inB_e q
    have hw := hw0 (by omega)
    have hwN := rl_lt _ hw
    rw [if_pos (by rw [m_isFt v (by omega) hF8]; exact q), if_pos q]
    generalize v.toInt.toNat = i at e a
    rw [e]
    unfold fctV
    rw [h1, m_holds hW h38 hwN a]
    by_cases q3 : (0 : Int) ≤ w.toInt ∧ w.toInt ≤ 2
    · rw [if_pos (by rw [lI_0, show (2 : Int64) = lI 2 by decide +kernel, m_inI w (by omega) (by omega) (by omega) (by omega)]; exact q3), wq_bind, wq_some]
      by_cases q0 : w = 0
      · rw [if_pos q0, if_pos q0]
        cases (W.tr w0).testBit i with
        | true => rw [if_pos rfl, wq_some]; rfl
        | false => rw [if_neg (by decide), wq_some]; rfl
      rw [if_neg q0, if_neg q0]
      by_cases q1 : w = 1
      · rw [if_pos q1, q1]
        refine wq_for (R := fun k x => x = (nI (cnP (rl k L) (alk W.tr (2 ^ i) w0)), nI k)) 0 W.N (Nat.zero_le _) ?_ ?_ rfl
        · rintro k x - hk rfl
          (try dsimp only)
          unfold f_X12_fact_54 f_X12_fact_111 f_X12_fact_114
          rw [h52, if_neg (nI_ge hk (by omega)), if_pos rfl, m_isLeft hg.1 (by omega), wq_bind, wq_some, nI_1 k, rl_s]
          by_cases q4 : L k = true
          · rw [if_pos q4, if_pos q4, m_holds hW h38 hk a, wq_bind, wq_some, cnP_s, fhb_bI, fhb_bI]
            have bb := bit_and8 (W.tr k) (by have := hW.2.2.2.2.2.2.2.1 k; omega) (W.tr w0) (by have := hW.2.2.2.2.2.2.2.1 w0; omega) i (by omega)
            by_cases q5 : (W.tr k).testBit i = (W.tr w0).testBit i
            · rw [if_pos (by rw [q5]), if_pos (show alk W.tr _ w0 k = true from decide_eq_true (bb.mp q5)), wq_some, fhK_l, nI_1]
            · rw [if_neg (by rw [bI_eq]; exact q5), if_neg (show ¬ alk W.tr _ w0 k = true from fun z => q5 (bb.mpr (of_decide_eq_true z))), wq_some, fhK_l]
          · rw [if_neg q4, if_neg q4, wq_some, fhK_l]
        · rintro x rfl
          (try dsimp only)
          unfold f_X12_fact_54
          rw [h52, if_pos (nI_le (Nat.le_refl _) (by omega)), wq_some, fhK_r]
      rw [if_neg q1]
      have q2 : w = 2 := by
        obtain ⟨ew, _, _⟩ := iI_ex w
        have : w.toInt = 0 ∨ w.toInt = 1 ∨ w.toInt = 2 := by omega
        rcases this with y | y | y
        · exact absurd (by rw [ew, y]; decide) q0
        · exact absurd (by rw [ew, y]; decide) q1
        · rw [ew, y]; decide
      rw [if_pos q2, q2]
      refine wq_for (R := fun k x => x = (nI (cnP (rl k W.al) (fun r => (W.tr r).testBit i)), nI k)) 0 W.N (Nat.zero_le _) ?_ ?_ rfl
      · rintro k x - hk rfl
        (try dsimp only)
        unfold f_X12_fact_54 f_X12_fact_111 f_X12_fact_114
        rw [h52, if_neg (nI_ge hk (by omega)), if_neg (show ¬ (2 : Int32) = 1 by decide), if_pos (ph_in1 (by omega) (by omega)), ph_ix (by omega), h37 k hk, m_holds hW h38 hk a, nI_1 k, rl_s]
        by_cases q4 : W.al k = true
        · rw [if_pos q4, if_pos q4, if_neg (by decide), wq_bind, wq_some, cnP_s]
          by_cases q5 : (W.tr k).testBit i = true
          · rw [if_pos q5, if_pos q5, wq_some, fhK_l, nI_1]
          · rw [if_neg q5, if_neg q5, wq_some, fhK_l]
        · rw [if_neg q4, if_neg q4, if_pos (by decide), wq_some, fhK_l]
      · rintro x rfl
        (try dsimp only)
        unfold f_X12_fact_54
        rw [h52, if_pos (nI_le (Nat.le_refl _) (by omega)), wq_some, fhK_r]
    · rw [if_neg (by rw [lI_0, show (2 : Int64) = lI 2 by decide +kernel, m_inI w (by omega) (by omega) (by omega) (by omega)]; exact q3), wq_some, if_neg (fun z => q3 (by rw [z]; decide)), if_neg (fun z => q3 (by rw [z]; decide)), if_neg (fun z => q3 (by rw [z]; decide))]
  · rw [if_neg (by rw [m_isFt v (by omega) hF8]; exact q), if_neg q, wq_some]
end
