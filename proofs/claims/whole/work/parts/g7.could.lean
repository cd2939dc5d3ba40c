/-! ANEW: could; how many a telling leaves at most -/
theorem nI_sub {a b : Nat} (h : b ≤ a) : nI a - nI b = nI (a - b) := by
  have e : nI a = nI (a - b) + nI b := by
    rw [nI_add]
    congr 1
    omega
  rw [e, Int32.add_sub_cancel]
theorem nI_max {a b : Nat} (ha : a < 2 ^ 31) (hb : b < 2 ^ 31) (σ : fhM) : f_J9_max_7cf53 (nI a) (nI b) σ = nI (max a b) := by
  unfold f_J9_max_7cf53
  by_cases q : a < b
  · rw [if_pos (nI_lt q hb), Nat.max_eq_right (by omega)]
  · rw [if_neg (nI_nlt (by omega) ha), Nat.max_eq_left (by omega)]
def cW (W : gW) : gW := (W.1, fun _ _ => 0, W.2.2)
theorem cW_s (W : gW) (l : List Nat) (x i : Nat) : msk (cW W) (l ++ [x]) i 0 = msk (cW W) l i 0 ||| 2 ^ W.mk x i := by
  rw [msk_s, if_pos (show (cW W).vw x i = 0 from rfl)]
  rfl
def couA (W : gW) (H : tT) (v : Int32) : Int32 := if inB v W.g then nI (msk (cW W) (fitL W H) v.toInt.toNat 0) else -1
def mlN (W : gW) (l : List Nat) (n i : Nat) : Nat := max (cnP l (fun r => decide (fk W r i ≤ n))) (l.length - cnP l (fun r => decide (fk W r i ≤ n)))
section
variable {W : gW} {H : tT}
theorem fitL_m {r : Nat} (h : r ∈ fitL W H) : r < W.N ∧ W.al r = true ∧ fitB W H r = true := by
  obtain ⟨a, b⟩ := List.mem_filter.mp h
  obtain ⟨c, d⟩ := rl_mem.mp a
  exact ⟨c, d, b⟩
theorem fitL_le (hW : wOK W) : (fitL W H).length ≤ 1024 := by
  have := hW.2.1
  have := rl_len W.N W.al
  exact Nat.le_trans (List.length_filter_le _ _) (by omega)
theorem c_could (hW : wOK W) {σ : fhM} (htb : tbF W W.N σ) (hz : psF σ) (hne : 0 < W.g → rl W.N W.al ≠ []) (h : anC W σ) (hF : heF H σ) (hV : heV W H) (v : Int32) : wq (f_X11_could v σ) (fun r => r.1 = couA W H v ∧ anC W r.2 ∧ anX σ r.2) := by
  have hg5 := hW.1
  have hN10 := hW.2.1
  have hfl := fitL_le (W := W) (H := H) hW
  unfold f_X11_could couA
  by_cases c : inB v W.g
  · obtain ⟨e, hi⟩ := inB_e c
    rw [if_pos (by rw [c_isG v (by omega) htb.2.1]; exact c), if_pos c, wq_bind]
    refine wq_mono (c_findFit hW htb hz (hne (by omega)) h hF hV) ?_
    rintro s ⟨a1, a2, a3, a4, a5⟩
    have hrw := tbF_rw (tbF_q htb (fun t j ht => anX_t a5 (by omega)))
    have key : ∀ i, i < W.g → f_X1_marksFitting (nI i) s = some (nI (msk (cW W) (fitL W H) i 0)) := by
      intro i hi
      refine wq_eq ?_
      unfold f_X1_marksFitting
      refine wq_for (R := fun k x => x = (nI (msk (cW W) ((fitL W H).take k) i 0), nI k)) 0 (fitL W H).length (Nat.zero_le _) ?_ ?_ rfl
      · rintro k x - hk rfl
        (try dsimp only)
        unfold f_X1_marksFitting_4 fhlet
        (try dsimp only)
        obtain ⟨x1, x2, -⟩ := fitL_m (getD_mem hk)
        have hm := hW.2.2.2.2.1 _ i x1
        rw [a3, if_neg (nI_ge hk (by omega)), cg91 (by omega), a4 k hk, c_markOf hW hrw x1 hi, ph_shl1 (by omega), ph_or, nI_1, wq_some, fhK_l, take_s hk, cW_s]
      · rintro x rfl
        (try dsimp only)
        unfold f_X1_marksFitting_4
        rw [a3, if_pos (nI_le (Nat.le_refl _) (by omega)), List.take_length, wq_some, fhK_r]
    rw [(congrArg (fun a => f_X1_marksFitting a s) e).trans (key _ hi), wq_bind, wq_some, wq_some]
    exact ⟨rfl, a1, a5⟩
  · rw [if_neg (by rw [c_isG v (by omega) htb.2.1]; exact c), if_neg c, wq_some]
    exact ⟨rfl, h, anX_rf⟩
theorem m_could (hW : wOK W) {σ : fhM} (hrw : rwM' W σ) (hal : alM W σ) (h : knT W σ) (hM : heM H σ) (hV : heV W H) (v : Int32) : f_X12_could v σ = some (couA W H v) := by
  have hg5 := hW.1
  have hN10 := hW.2.1
  unfold f_X12_could couA
  by_cases c : inB v W.g
  · obtain ⟨e, hi⟩ := inB_e c
    rw [if_pos (by rw [m_isG v (by omega) hrw.2.1]; exact c), if_pos c]
    generalize v.toInt.toNat = i at e hi
    subst e
    refine wq_eq ?_
    refine wq_for (R := fun x y => y = (nI (msk (cW W) ((rl x W.al).filter (fitB W H)) i 0), nI x)) 0 W.N (Nat.zero_le _) ?_ ?_ rfl
    · rintro x y - hx rfl
      (try dsimp only)
      unfold f_X12_could_15 f_X12_could_42
      have hfr := fl_row (x := x) W H
      rw [hrw.2.2.1, if_neg (nI_ge hx (by omega)), m_doesFit hW hal h hM hV hx, wq_bind, wq_some]
      by_cases q : (W.al x && fitB W H x) = true
      · rw [if_pos q] at hfr
        have hm := hW.2.2.2.2.1 x i hx
        rw [if_pos q, mk_mo hW hrw hx hi, wq_bind, wq_some, ph_shl1 (by omega), ph_or, nI_1, wq_some, fhK_l, hfr, cW_s]
      · rw [if_neg q] at hfr
        rw [if_neg q, nI_1, wq_some, fhK_l, hfr]
    · rintro y rfl
      (try dsimp only)
      unfold f_X12_could_15
      rw [hrw.2.2.1, if_pos (nI_le (Nat.le_refl _) (by omega)), wq_some, fhK_r]
      rfl
  · rw [if_neg (by rw [m_isG v (by omega) hrw.2.1]; exact c), if_neg c]
theorem c_mostL (hW : wOK W) {σ : fhM} (h : fkT W σ) (h12 : σ.1 76 12 = nI (fitL W H).length) (h92 : lsT (σ.1 92) (fitL W H)) {n i : Nat} (hn : n < 2 ^ 31) (hi : i < W.g) : f_X1_mostLeft (nI n) (nI i) σ = some (nI (mlN W (fitL W H) n i)) := by
  have hfl := fitL_le (W := W) (H := H) hW
  have hcl : ∀ P l, cnP l P ≤ l.length := fun P l => cnP_le P l
  refine wq_eq ?_
  unfold f_X1_mostLeft
  refine wq_for (R := fun k x => x = (nI (cnP ((fitL W H).take k) (fun r => decide (fk W r i ≤ n))), nI k)) 0 (fitL W H).length (Nat.zero_le _) ?_ ?_ rfl
  · rintro k x - hk rfl
    (try dsimp only)
    unfold f_X1_mostLeft_5 f_X1_mostLeft_38
    obtain ⟨x1, x2, -⟩ := fitL_m (getD_mem hk)
    have hf := fk_le W ((fitL W H).getD k 0) i
    rw [h12, if_neg (nI_ge hk (by omega)), cg91 (by omega), h92 k hk, c_first hW h x2 hi, take_s hk, cnP_s, nI_1 k, wq_some, fhK_l]
    by_cases q : fk W ((fitL W H).getD k 0) i ≤ n
    · rw [if_neg (by rw [nI_ltP (by omega) (by omega)]; omega), if_pos (decide_eq_true q), nI_1]
    · rw [if_pos (by rw [nI_ltP (by omega) (by omega)]; omega), if_neg (by rw [decide_eq_true_iff]; exact q), ph_0, nI_add]
      rfl
  · rintro x rfl
    (try dsimp only)
    unfold f_X1_mostLeft_5
    have h1 := hcl (fun r => decide (fk W r i ≤ n)) (fitL W H)
    rw [h12, if_pos (nI_le (Nat.le_refl _) (by omega)), List.take_length, nI_sub h1, nI_max (by omega) (by omega), wq_some, fhK_r]
    rfl
theorem m_mostA (hW : wOK W) {σ : fhM} (h52 : σ.1 0 52 = nI W.N) (hal : alM W σ) (h : knT W σ) (hM : heM H σ) (hV : heV W H) {n i : Nat} (hn : n ≤ 20) (hi : i < W.g) : f_X12_mostAlike (nI n) (nI i) (nI (fitL W H).length) σ = some (nI (mlN W (fitL W H) n i)) := by
  have hN10 := hW.2.1
  have hfl := fitL_le (W := W) (H := H) hW
  refine wq_eq ?_
  unfold f_X12_mostAlike
  refine wq_for (R := fun x y => y = (nI (cnP ((rl x W.al).filter (fitB W H)) (fun r => decide (fk W r i ≤ n))), nI x)) 0 W.N (Nat.zero_le _) ?_ ?_ rfl
  · rintro x y - hx rfl
    (try dsimp only)
    unfold f_X12_mostAlike_6 f_X12_mostAlike_38
    have hfr := fl_row (x := x) W H
    rw [h52, if_neg (nI_ge hx (by omega)), m_doesFit hW hal h hM hV hx, wq_bind, wq_some]
    by_cases q : (W.al x && fitB W H x) = true
    · rw [if_pos q] at hfr
      have q2 := q
      rw [Bool.and_eq_true] at q2
      rw [if_pos q, m_knewAt hW h hn q2.1 hi, wq_bind, wq_some, nI_1 x, wq_some, fhK_l, hfr, cnP_s]
      by_cases z : decide (fk W x i ≤ n) = true
      · rw [if_pos z, if_pos z, nI_1]
      · rw [if_neg z, if_neg z]
    · rw [if_neg q] at hfr
      rw [if_neg q, nI_1, wq_some, fhK_l, hfr]
  · rintro y rfl
    (try dsimp only)
    unfold f_X12_mostAlike_6
    have h1 : cnP (fitL W H) (fun r => decide (fk W r i ≤ n)) ≤ (fitL W H).length := cnP_le _ _
    rw [h52, if_pos (nI_le (Nat.le_refl _) (by omega)), show (rl W.N W.al).filter (fitB W H) = fitL W H from rfl, nI_sub h1]
    unfold mlN
    by_cases z : (fitL W H).length - cnP (fitL W H) (fun r => decide (fk W r i ≤ n)) ≤ cnP (fitL W H) (fun r => decide (fk W r i ≤ n))
    · rw [if_pos (nI_le z (by omega)), wq_some, fhK_r, Nat.max_eq_left z]
    · rw [if_neg (nI_ge (by omega) (by omega)), wq_some, fhK_r, Nat.max_eq_right (by omega)]
end
