/-! ACTIONS: another mark worn -/
def rowW (m w i v : Nat) : Nat := w - w / m ^ i % m * m ^ i + v * m ^ i
theorem dig_le (m w i : Nat) : w / m ^ i % m * m ^ i ≤ w := Nat.le_trans (Nat.mul_le_mul_right _ (Nat.mod_le _ _)) (Nat.div_mul_le_self _ _)
theorem rowW_lt {m w i v g : Nat} (hw : w < m ^ g) (hi : i < g) (hv : v < m) : rowW m w i v < m ^ g := by
  unfold rowW
  have hP : 0 < m ^ i := Nat.pow_pos (by omega)
  have h1 : m ^ i * (w / m ^ i) + w % m ^ i = w := Nat.div_add_mod w (m ^ i)
  have h2 : m * (w / m ^ i / m) + w / m ^ i % m = w / m ^ i := Nat.div_add_mod _ m
  have h3 : w % m ^ i < m ^ i := Nat.mod_lt _ hP
  have h4 : w / m ^ i / m < m ^ (g - i - 1) := by
    rw [Nat.div_div_eq_div_mul]
    refine Nat.div_lt_of_lt_mul ?_
    rw [← Nat.pow_succ, ← Nat.pow_add, show i + 1 + (g - i - 1) = g by omega]
    exact hw
  have h5 : m ^ g = m ^ i * (m * m ^ (g - i - 1)) := by
    rw [← Nat.pow_succ', ← Nat.pow_add, show i + (g - i - 1 + 1) = g by omega]
  rw [h5]
  generalize w / m ^ i / m = a at *
  generalize w / m ^ i % m = d at *
  generalize w / m ^ i = q at *
  generalize w % m ^ i = b at *
  generalize m ^ (g - i - 1) = R at *
  generalize m ^ i = P at *
  have e1 : P * q = P * (m * a) + d * P := by rw [← h2, Nat.mul_add, Nat.mul_comm d P]
  have e2 : P * (m * a) + P * m ≤ P * (m * R) := by
    rw [← Nat.mul_add, ← Nat.mul_succ]
    exact Nat.mul_le_mul_left _ (Nat.mul_le_mul_left _ h4)
  have e3 : v * P + P ≤ P * m := by
    rw [← Nat.succ_mul, Nat.mul_comm P m]
    exact Nat.mul_le_mul_right _ hv
  omega
theorem iI_add (a b : Int) : iI a + iI b = iI (a + b) := (Int32.ofInt_add a b).symm
theorem row_i {m w i v : Nat} (hw : w < 1024) (hv : v < 4) (hd : w / m ^ i % m < 4) (hp : m ^ i ≤ 1024) : nI w + (nI v - nI (w / m ^ i % m)) * nI (m ^ i) = nI (rowW m w i v) := by
  have h := dig_le m w i
  have e2 : v * m ^ i ≤ 4 * 1024 := Nat.mul_le_mul (by omega) hp
  unfold rowW
  generalize w / m ^ i % m = d at *
  generalize m ^ i = P at *
  rw [← iI_n (show w < 2 ^ 31 by omega), ← iI_n (show v < 2 ^ 31 by omega), ← iI_n (show d < 2 ^ 31 by omega), ← iI_n (show P < 2 ^ 31 by omega), ← iI_n (show w - d * P + v * P < 2 ^ 31 by omega), iI_sub, iI_mulE, iI_add]
  congr 1
  rw [Int.sub_mul, ← Int.natCast_mul, ← Int.natCast_mul]
  omega
theorem rowW_e {m w i v : Nat} (hP : 0 < m ^ i) : rowW m w i v = w ↔ v = w / m ^ i % m := by
  have h := dig_le m w i
  unfold rowW
  constructor
  · intro e
    have : v * m ^ i = w / m ^ i % m * m ^ i := by omega
    exact Nat.eq_of_mul_eq_mul_right hP this
  · intro e
    rw [e]
    omega
section
variable {W : gW} {G : gG} {S : List gG} {σ : fhM}
theorem c_begun (hW : wOK W) (hg : cGm W G S σ) (row : Nat) : wq (f_X4_begin (nI row) σ) (fun s => cGm W (gNew W G row) S s ∧ fpl aDc σ s ∧ s.1 57 3 = 0) := by
  obtain ⟨h1, h2, h3, h4, p, h5⟩ := hg
  refine wq_mono (c_begin hW h1 h2 row) (fun s z => ?_)
  obtain ⟨z1, z57, z3⟩ := z
  have hf := gD4_a z3
  have e93 : ∀ a j, ¬ gD4 a → s.1 a j = σ.1 a j := fun a j ha => (z3.1 a j ha).1
  refine ⟨⟨tbF_a h1 hf, psF_a h2 hf, z1, ⟨?_, fun k e hk hb => ?_⟩, p, ?_⟩, hf, z57⟩
  · rw [e93 _ _ (by unfold gD4; omega)]; exact h4.1
  · rw [e93 _ _ (by unfold gD4; omega), e93 _ _ (by unfold gD4; omega), e93 _ _ (by unfold gD4; omega), e93 _ _ (by unfold gD4; omega)]
    exact h4.2 k e hk hb
  · obtain ⟨s3, hp, s4, hl2, hs⟩ := h5
    exact ⟨by rw [e93 _ _ (by unfold gD4; omega)]; exact s3, hp, by rw [e93 _ _ (by unfold gD4; omega)]; exact s4, hl2, fun k G2 hk => by
      rw [show s.1 97 = σ.1 97 from funext (fun j => e93 _ _ (by unfold gD4; omega))]
      exact hs k G2 hk⟩
/-- may guest i wear mark v -/
def wrO (W : gW) (w : Nat) (i v : Nat) : Prop := v ≠ W.mk w i ∧ W.al (rowW W.m w i v) = true
theorem c_wear (hW : wOK W) (hNm : W.N = W.m ^ W.g) (hg : cGm W G S σ) (hc : chn G.H S) (hw : G.w ∈ rl W.N G.L) {i v : Nat} (hi : i < W.g) (hv : v < W.m) :
    (wrO W G.w i v → wq (f_X11_wear (nI i) (nI v) σ) (fun r => r.1 = true ∧ cGm W (gNew W G (rowW W.m G.w i v)) (psh G S) r.2 ∧ fpl aDc σ r.2 ∧ r.2.1 57 3 = 0)) ∧ (¬ wrO W G.w i v → f_X11_wear (nI i) (nI v) σ = some (false, (f_X11_refuse 2 σ).2)) := by
  have hg5 := hW.1
  have hN10 := hW.2.1
  have hm4 := hW.2.2.2.1
  have hwN := rl_lt _ hw
  have hm2 : 2 ≤ W.m := hW.2.2.2.2.2.2.2.2.2 (by omega)
  have hP : 0 < W.m ^ i := Nat.pow_pos (by omega)
  have hPl : W.m ^ i ≤ 1024 := by
    have : W.m ^ i ≤ W.m ^ W.g := Nat.pow_le_pow_right (by omega) (by omega)
    omega
  have hd : G.w / W.m ^ i % W.m < 4 := by
    have := Nat.mod_lt (G.w / W.m ^ i) (show 0 < W.m by omega)
    omega
  have hr : rowW W.m G.w i v < W.N := by
    rw [hNm]
    exact rowW_lt (by rw [← hNm]; exact hwN) hi hv
  have h9 := hg.2.2.1.2.1
  have t5 := hg.1.1
  have t41 := hg.1.2.2.2.2.2.1 i hi
  have t47 := hg.1.2.2.2.2.2.2.2.2.2.1 (rowW W.m G.w i v) (by omega)
  have s0 : (if f_X11_isGuest (nI i) σ = true then f_X9_withMark (σ.1 56 9) (nI i) (nI v) σ else (-1 : Int32)) = nI (rowW W.m G.w i v) := by
    unfold f_X9_withMark
    rw [if_pos (by rw [c_isG _ (by omega) hg.1.2.1, inB_n (by omega)]; exact hi), if_neg (by rw [lt0_P, nI_toInt (by omega)]; omega), t5, if_pos (nI_lt hv (by omega)), h9, c_markOf hW (tbF_rw hg.1) hwN hi, cg40 (by omega), t41]
    exact row_i (by omega) (by omega) hd hPl
  have hrf : f_X11_wear_56 σ = some (false, (f_X11_refuse 2 σ).2) := rfl
  have he := rowW_e (m := W.m) (w := G.w) (i := i) (v := v) hP
  have hal : (f_X9_isAllowed (nI (rowW W.m G.w i v)) σ = true) = (W.al (rowW W.m G.w i v) = true) := by
    unfold f_X9_isAllowed
    rw [fcG_at (show fcL 46 = 1024 from rfl) (show rowW W.m G.w i v < 1024 by omega) (by omega), t47]
    by_cases q : W.al (rowW W.m G.w i v) = true
    · rw [if_pos (show rowW W.m G.w i v < W.N ∧ W.al (rowW W.m G.w i v) = true from ⟨hr, q⟩), if_neg (by decide)]
      exact propext ⟨fun _ => q, fun _ => rfl⟩
    · rw [if_neg (show ¬ (rowW W.m G.w i v < W.N ∧ W.al (rowW W.m G.w i v) = true) from fun z => q z.2), if_pos (by decide)]
      exact propext ⟨fun z => (by cases z), fun z => absurd z q⟩
  unfold f_X11_wear f_X11_wear_28
  rw [s0, if_neg (ph_m1n (by omega)), h9]
  by_cases q1 : v = W.mk G.w i
  · refine ⟨fun z => absurd q1 z.1, fun _ => ?_⟩
    rw [if_pos (by rw [he.mpr q1])]
    exact hrf
  · rw [if_neg (fun z => q1 (he.mp ((nI_eq (by omega) (by omega)).mp z)))]
    by_cases q2 : W.al (rowW W.m G.w i v) = true
    · refine ⟨fun _ => ?_, fun z => absurd ⟨q1, q2⟩ z⟩
      rw [if_pos (by rw [hal]; exact q2), wq_bind]
      refine wq_mono (c_saved hW hg hc) (fun s z => ?_)
      rw [wq_bind]
      refine wq_mono (c_begun hW z.1 (rowW W.m G.w i v)) (fun s2 y => ?_)
      rw [wq_some]
      exact ⟨rfl, y.1, fpl_tr2 z.2 y.2.1, y.2.2⟩
    · refine ⟨fun z => absurd z.2 q2, fun _ => ?_⟩
      rw [if_neg (by rw [hal]; exact q2)]
      exact hrf
end
