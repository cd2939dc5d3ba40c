/-! QUESTIONS: what guest i is asked for -/
def lfQ (W : gW) (l : List Nat) (w0 rd i : Nat) (c : Nat) : Int := if c = 10 then (i : Nat) else if c = 11 then (W.mk w0 i : Nat) else if c = 12 then (cnv W l i (W.vw w0 i) : Nat) else if c = 13 then (if one (msk W l i (W.vw w0 i)) = true then 1 else 0) else (rd : Nat)
def lkQ (W : gW) (l : List Nat) (w0 i : Nat) (b : Nat) (n : Int) : Int := if 0 ≤ n ∧ n < 5 then (if b = 20 then (if (W.sb i).testBit n.toNat = true then 1 else 0) else (if (msk W l i (W.vw w0 i)).testBit n.toNat = true then 1 else 0)) else 0
theorem cnv_le (W : gW) (i v : Nat) : ∀ l : List Nat, cnv W l i v ≤ l.length := by
  intro l
  have key : ∀ (l : List Nat) (a : Nat), l.foldl (fun n r => if W.vw r i = v then n + 1 else n) a ≤ a + l.length := by
    intro l
    induction l with
    | nil => exact fun a => Nat.le_refl _
    | cons x xs ih =>
      intro a
      rw [List.foldl_cons, List.length_cons]
      refine Nat.le_trans (ih _) ?_
      split <;> omega
  have := key l 0
  unfold cnv
  omega
section
variable {W : gW} {L : Nat → Bool} {w0 rd i : Nat}
theorem lfQ_b (hW : wOK W) (hi : i < W.g) (hw : w0 < W.N) (hr : rd ≤ 999) (c : Nat) : bnd (lfQ W (rl W.N L) w0 rd i c) := by
  have hg5 := hW.1
  have hN := hW.2.1
  have hm := hW.2.2.2.2.1 w0 i hw
  have hc := cnv_le W i (W.vw w0 i) (rl W.N L)
  have hl := rl_len W.N L
  unfold lfQ bnd
  split
  · omega
  · split
    · omega
    · split
      · omega
      · split
        · split <;> omega
        · omega
theorem lkQ_b (W : gW) (l : List Nat) (w0 i b : Nat) (n : Int) : bnd (lkQ W l w0 i b n) := by
  unfold lkQ bnd
  split
  · split <;> (split <;> omega)
  · omega
theorem cg11q {σ : fhM} {k : Nat} (h : k < 30) : fcG σ 11 (nI k) = σ.1 12 k := cg11 h
theorem bI_tI (b : Bool) : bI b = iI (if b = true then 1 else 0) := by cases b <;> decide
theorem c_fillG (hW : wOK W) {σ : fhM} (hrw : rwF W σ) (hg : gmF W L w0 rd σ) (h51 : ∀ i, i < W.g → σ.1 51 i = nI (W.sb i)) (hw0 : w0 ∈ rl W.N L) (hi : i < W.g) (hr : rd ≤ 999) : wq (f_X10_fillFromGuest (nI i) σ) (fun s => ∃ t, s = fhU σ 12 t ∧ lvF true W.g (lfQ W (rl W.N L) w0 rd i) (lkQ W (rl W.N L) w0 i) s) := by
  have hg5 := hW.1
  have hN := hW.2.1
  have hwN := rl_lt w0 hw0
  have hmk := hW.2.2.2.2.1 w0 i hwN
  have hsb : W.sb i < 2 ^ 5 := Nat.lt_of_lt_of_le (hW.2.2.2.2.2.2.2.2.1 i) (Nat.pow_le_pow_right (by decide) hg5)
  have hms : msk W (rl W.N L) i (W.vw w0 i) < 16 := msk_lt (rl_mk hW L i)
  have hcn := cnv_le W i (W.vw w0 i) (rl W.N L)
  have hll := rl_len W.N L
  have gmU : ∀ t, gmF W L w0 rd (fhU σ 12 t) := fun t => ⟨by rw [fhU_o (by decide)]; exact hg.1, by rw [fhU_o (by decide)]; exact hg.2.1, by rw [fhU_o (by decide)]; exact hg.2.2.1, fun k hk => by rw [fhU_o (by decide)]; exact hg.2.2.2.1 k hk, fun r hr => by rw [fhU_o (by decide)]; exact hg.2.2.2.2 r hr⟩
  have rwU : ∀ t, rwF W (fhU σ 12 t) := fun t => rwF_U hrw (by decide) (by decide) (by decide)
  have p : ∀ k (hk : k < 30) (t : Nat → Int32) v, fcP (fhU σ 12 t) 11 (nI k) v = fhU σ 12 (fun j => if j = k then v else t j) := fun k hk t v => by rw [cp11 hk, fhU_I]
  have mo : ∀ t, f_X9_markOf ((fhU σ 12 t).1 56 9) (nI i) (fhU σ 12 t) = nI (W.mk w0 i) := fun t => by
    rw [(gmU t).2.1]
    exact c_markOf hW (rwU t) hwN hi
  unfold f_X10_fillFromGuest
  rw [fcW_U (show fcL 11 = 30 from rfl), show (10 : Int32) = nI 10 from rfl, show (11 : Int32) = nI 11 from rfl, show (12 : Int32) = nI 12 from rfl, show (13 : Int32) = nI 13 from rfl, p 10 (by decide)]
  have e1 : f_X9_markOf (σ.1 56 9) (nI i) (fhU σ 12 (fun j => if j = 10 then nI i else if j < 30 then 0 else σ.1 12 j)) = nI (W.mk w0 i) := by
    rw [hg.2.1]
    exact c_markOf hW (rwU _) hwN hi
  rw [e1, p 11 (by decide), c_countRowsOf hW (rwU _) (gmU _) hwN hi, wq_bind, wq_some, p 12 (by decide)]
  unfold f_X10_fillFromGuest_71 fhlet
  (try dsimp only)
  rw [show (14 : Int32) = nI 14 from rfl, p 13 (by decide), (gmU _).2.2.1, p 14 (by decide), cg50 (by omega), fhU_o (show 51 ≠ 12 by decide), h51 i hi, c_marksHeld hW (rwU _) (gmU _) hwN hi, wq_bind, wq_some]
  have ekn : ∀ t, (if (f_X4_isKnower (nI i) (fhU σ 12 t)) = true then (1 : Int32) else (0 : Int32)) = bI (one (msk W (rl W.N L) i (W.vw w0 i))) := fun t => by
    have := c_isKn hW (gmU t) hw0 hi
    rw [← this]
    unfold f_X11_one
    cases f_X4_isKnower (nI i) (fhU σ 12 t) <;> rfl
  rw [ekn]
  have hbase : ∀ j, j < 15 → 10 ≤ j → (fun j => if j = 14 then nI rd else if j = 13 then bI (one (msk W (rl W.N L) i (W.vw w0 i))) else if j = 12 then nI (cnv W (rl W.N L) i (W.vw w0 i)) else if j = 11 then nI (W.mk w0 i) else if j = 10 then nI i else if j < 30 then (0 : Int32) else σ.1 12 j) j = iI (lfQ W (rl W.N L) w0 rd i j) := fun j h1 h2 => by
    have : j = 10 ∨ j = 11 ∨ j = 12 ∨ j = 13 ∨ j = 14 := by omega
    unfold lfQ
    rcases this with rfl | rfl | rfl | rfl | rfl
    · exact (iI_n (by omega)).symm
    · exact (iI_n (by omega)).symm
    · exact (iI_n (by omega)).symm
    · exact bI_tI _
    · exact (iI_n (by omega)).symm
  generalize (fun j => if j = 14 then nI rd else if j = 13 then bI (one (msk W (rl W.N L) i (W.vw w0 i))) else if j = 12 then nI (cnv W (rl W.N L) i (W.vw w0 i)) else if j = 11 then nI (W.mk w0 i) else if j = 10 then nI i else if j < 30 then (0 : Int32) else σ.1 12 j) = t0 at hbase
  refine wq_for (R := fun k x => ∃ t, x = (nI k, fhU σ 12 t) ∧ (∀ j, j < 15 → 10 ≤ j → t j = iI (lfQ W (rl W.N L) w0 rd i j)) ∧ ∀ j, j < k → t (20 + j) = bI ((W.sb i).testBit j) ∧ t (25 + j) = bI ((msk W (rl W.N L) i (W.vw w0 i)).testBit j)) 0 5 (Nat.zero_le _) ?_ ?_ ⟨t0, rfl, hbase, fun j hj => absurd hj (Nat.not_lt_zero _)⟩
  · rintro k x - hk ⟨t, rfl, t1, t2⟩
    (try dsimp only)
    unfold f_X10_fillFromGuest_109
    rw [if_neg (show ¬ (5 : Int32) ≤ nI k by rw [show (5 : Int32) = nI 5 from rfl, nI_leP (by omega) (by omega)]; omega), ph_bitA (by omega), ph_bitA (by omega), show (20 : Int32) = nI 20 from rfl, show (25 : Int32) = nI 25 from rfl, nI_add, nI_add, p _ (by omega), p _ (by omega), nI_1, wq_some, fhK_l]
    refine ⟨_, rfl, fun j h1 h2 => ?_, fun j hj => ?_⟩
    · (try dsimp only)
      rw [if_neg (by omega), if_neg (by omega)]
      exact t1 j h1 h2
    · (try dsimp only)
      by_cases c : j = k
      · rw [if_neg (by omega), if_pos (by omega), if_pos (by omega), c]
        exact ⟨rfl, rfl⟩
      · rw [if_neg (by omega), if_neg (by omega), if_neg (by omega), if_neg (by omega)]
        exact t2 j (by omega)
  · rintro x ⟨t, rfl, t1, t2⟩
    (try dsimp only)
    unfold f_X10_fillFromGuest_109
    rw [if_pos (show (5 : Int32) ≤ nI 5 by decide), wq_some, fhK_r]
    refine ⟨t, rfl, fun c hc => ?_, fun b n hb hn => ⟨lkQ_b W _ w0 i b n, ?_⟩⟩
    · have h2 : 10 ≤ c ∧ c ≤ 14 := by
        have hc : (decide (10 ≤ c) && decide (c ≤ 14)) = true := hc
        rw [Bool.and_eq_true, decide_eq_true_iff, decide_eq_true_iff] at hc
        exact hc
      rw [cg11 (by omega), fhU_e]
      exact ⟨t1 c (by omega) h2.1, lfQ_b hW hi hwN hr c⟩
    · have h2 : b = 20 ∨ b = 25 := by
        have hb : (decide (b = 20) || decide (b = 25)) = true := hb
        rw [Bool.or_eq_true, decide_eq_true_iff, decide_eq_true_iff] at hb
        exact hb
      unfold lkQ
      by_cases c : 0 ≤ n ∧ n < 5
      · rw [if_pos c, if_pos c]
        have en : iI n = nI n.toNat := by rw [← iI_n (by omega), Int.toNat_of_nonneg c.1]
        have hk : n.toNat < 5 := by omega
        rw [en, nI_add]
        obtain ⟨u1, u2⟩ := t2 n.toNat hk
        rcases h2 with rfl | rfl
        · rw [if_pos rfl, cg11 (by omega), fhU_e, u1, bI_tI]
        · rw [if_neg (by decide), cg11 (by omega), fhU_e, u2, bI_tI]
      · rw [if_neg c, if_neg c]
        exact iI_0.symm
end
