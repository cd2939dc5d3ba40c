/-! ANEW: tells -/
abbrev tlO : Type := Option (Nat × Nat × Nat)
def tlS (W : gW) (l : List Nat) (n : Nat) (o : tlO) (i : Nat) : tlO := match o with
  | none => some (n, i, mlN W l n i)
  | some x => if mlN W l n i < x.2.2 then some (n, i, mlN W l n i) else some x
def tlI (W : gW) (l : List Nat) (n : Nat) (o : tlO) : Nat → tlO
  | 0 => o
  | i + 1 => tlS W l n (tlI W l n o i) i
def tlN (W : gW) (l : List Nat) : Nat → tlO
  | 0 => none
  | n + 1 => tlI W l n (tlN W l n) W.g
def tlV (v : Int32) (o : tlO) : Int32 := match o with
  | none => -1
  | some x => if v = 0 then nI x.1 else if v = 1 then nI x.2.1 else nI x.2.2
def tlsA (W : gW) (H : tT) (v : Int32) : Int32 := if inB v 3 ∧ 0 < (fitL W H).length then tlV v (tlN W (fitL W H) 16) else -1
def tlG (W : gW) (l : List Nat) (o : tlO) : Prop := ∀ x, o = some x → x.1 < 16 ∧ x.2.1 < W.g ∧ x.2.2 = mlN W l x.1 x.2.1
theorem tlS_g {W : gW} {l : List Nat} {n i : Nat} {o : tlO} (hn : n < 16) (hi : i < W.g) (h : tlG W l o) : tlG W l (tlS W l n o i) := fun x hx => by
  unfold tlS at hx
  cases o with
  | none =>
    cases hx
    exact ⟨hn, hi, rfl⟩
  | some y =>
    (try dsimp only at hx)
    split at hx
    · cases hx
      exact ⟨hn, hi, rfl⟩
    · cases hx
      exact h _ rfl
theorem tlI_g {W : gW} {l : List Nat} {n : Nat} {o : tlO} (hn : n < 16) (h : tlG W l o) : ∀ i, i ≤ W.g → tlG W l (tlI W l n o i)
  | 0, _ => h
  | i + 1, hi => tlS_g hn (by omega) (tlI_g hn h i (by omega))
theorem tlN_g {W : gW} {l : List Nat} : ∀ n, n ≤ 16 → tlG W l (tlN W l n)
  | 0, _ => fun x hx => (by cases hx)
  | n + 1, hn => tlI_g (by omega) (tlN_g n (by omega)) W.g (Nat.le_refl _)
theorem tlS_s {W : gW} {l : List Nat} {n i : Nat} {o : tlO} : tlS W l n o i ≠ none := by
  unfold tlS
  cases o with
  | none => exact fun z => (by cases z)
  | some y =>
    (try dsimp only)
    split
    · exact fun z => (by cases z)
    · exact fun z => (by cases z)
theorem tlI_some {W : gW} {l : List Nat} {n : Nat} {o : tlO} : ∀ i, 0 < i → tlI W l n o i ≠ none
  | 0, h => absurd h (Nat.not_lt_zero _)
  | i + 1, _ => tlS_s
theorem ml_le (W : gW) (l : List Nat) (n i : Nat) : mlN W l n i ≤ l.length := by
  have : cnP l (fun r => decide (fk W r i ≤ n)) ≤ l.length := cnP_le _ _
  unfold mlN
  omega
def q5 (o : tlO) : Nat := match o with | none => 0 | some x => 5 * x.1 + x.2.1
def q6 (o : tlO) : Nat := match o with | none => 1025 | some x => x.2.2
theorem q6_le {W : gW} {l : List Nat} (hl : l.length ≤ 1024) {o : tlO} (h : tlG W l o) : q6 o ≤ 1025 := by
  cases o with
  | none => exact Nat.le_refl _
  | some x =>
    have := (h x rfl).2.2
    have := ml_le W l x.1 x.2.1
    show x.2.2 ≤ 1025
    omega
theorem q_s {W : gW} {l : List Nat} (hl : l.length ≤ 1024) {n i : Nat} (o : tlO) : q5 (tlS W l n o i) = (if q6 o ≤ mlN W l n i then q5 o else n * 5 + i) ∧ q6 (tlS W l n o i) = if q6 o ≤ mlN W l n i then q6 o else mlN W l n i := by
  have hm := ml_le W l n i
  unfold tlS
  cases o with
  | none =>
    have : ¬ q6 none ≤ mlN W l n i := by
      show ¬ 1025 ≤ _
      omega
    rw [if_neg this, if_neg this]
    exact ⟨by show 5 * n + i = _; omega, rfl⟩
  | some y =>
    (try dsimp only)
    by_cases c : mlN W l n i < y.2.2
    · have : ¬ q6 (some y) ≤ mlN W l n i := by
        show ¬ y.2.2 ≤ _
        omega
      rw [if_pos c, if_neg this, if_neg this]
      exact ⟨by show 5 * n + i = _; omega, rfl⟩
    · have : q6 (some y) ≤ mlN W l n i := by
        show y.2.2 ≤ _
        omega
      rw [if_neg c, if_pos this, if_pos this]
      exact ⟨rfl, rfl⟩
section
variable {W : gW} {H : tT}
theorem c_bestT (hW : wOK W) {σ : fhM} (h9 : σ.1 39 9 = nI W.g) (h : fkT W σ) (h12 : σ.1 76 12 = nI (fitL W H).length) (h92 : lsT (σ.1 92) (fitL W H)) : f_X1_bestTelling σ = some (nI (q5 (tlN W (fitL W H) 16))) := by
  have hg5 := hW.1
  have hfl := fitL_le (W := W) (H := H) hW
  refine wq_eq ?_
  unfold f_X1_bestTelling
  refine wq_for (R := fun n x => x = (nI (q5 (tlN W (fitL W H) n)), nI (q6 (tlN W (fitL W H) n)), nI n)) 0 16 (Nat.zero_le _) ?_ ?_ rfl
  · rintro n x - hn rfl
    (try dsimp only)
    unfold f_X1_bestTelling_8
    rw [if_neg (show ¬ (16 : Int32) ≤ nI n by rw [show (16 : Int32) = nI 16 from rfl, nI_leP (by omega) (by omega)]; omega)]
    refine wq_for (R := fun i x => x = (nI (q5 (tlI W (fitL W H) n (tlN W (fitL W H) n) i)), nI (q6 (tlI W (fitL W H) n (tlN W (fitL W H) n) i)), nI i)) 0 W.g (Nat.zero_le _) ?_ ?_ rfl
    · rintro i x - hi rfl
      (try dsimp only)
      unfold f_X1_bestTelling_17 f_X1_bestTelling_54
      have hgd := tlI_g (W := W) (l := fitL W H) hn (tlN_g n (by omega)) i (by omega)
      have hq := q6_le hfl hgd
      have hm := ml_le W (fitL W H) n i
      rw [h9, if_neg (nI_ge hi (by omega)), c_mostL hW h h12 h92 (by omega) hi, wq_bind, wq_some, wq_some, fhK_l, e5, nI_1 i]
      show _ = (nI (q5 (tlS W (fitL W H) n _ i)), nI (q6 (tlS W (fitL W H) n _ i)), _)
      obtain ⟨s1, s2⟩ := q_s hfl (n := n) (i := i) (tlI W (fitL W H) n (tlN W (fitL W H) n) i)
      rw [s1, s2]
      by_cases c : q6 (tlI W (fitL W H) n (tlN W (fitL W H) n) i) ≤ mlN W (fitL W H) n i
      · rw [if_pos (nI_le c (by omega)), if_pos (nI_le c (by omega)), if_pos c, if_pos c]
      · rw [if_neg (nI_ge (by omega) (by omega)), if_neg (nI_ge (by omega) (by omega)), if_neg c, if_neg c]
    · rintro x rfl
      (try dsimp only)
      unfold f_X1_bestTelling_17
      rw [h9, if_pos (nI_le (Nat.le_refl _) (by omega)), nI_1, wq_some, fhK_r, fhK_l]
      rfl
  · rintro x rfl
    (try dsimp only)
    unfold f_X1_bestTelling_8
    rw [if_pos (show (16 : Int32) ≤ nI 16 by decide), wq_some, fhK_r]
theorem c_tells (hW : wOK W) {σ : fhM} (htb : tbF W W.N σ) (hz : psF σ) (hne : 0 < W.g → rl W.N W.al ≠ []) (h : anC W σ) (hF : heF H σ) (hV : heV W H) (v : Int32) : wq (f_X11_tells v σ) (fun r => r.1 = tlsA W H v ∧ anC W r.2 ∧ anX σ r.2) := by
  have hg5 := hW.1
  have hfl := fitL_le (W := W) (H := H) hW
  unfold f_X11_tells tlsA
  by_cases hg : W.g = 0
  · rw [if_pos (by rw [htb.2.1, hg]; rfl), wq_some]
    refine ⟨?_, h, anX_rf⟩
    have e : tlN W (fitL W H) 16 = none := by
      have : ∀ n, tlN W (fitL W H) n = none := by
        intro n
        induction n with
        | zero => rfl
        | succ n ih =>
          show tlI W (fitL W H) n (tlN W (fitL W H) n) W.g = none
          rw [hg, ih]
          rfl
      exact this 16
    rw [e]
    split <;> rfl
  · rw [if_neg (by rw [htb.2.1, nI_eq0 (by omega)]; exact hg)]
    by_cases d : inB v 3
    · obtain ⟨d1, d2⟩ := (inB_2 (c := 2) (by omega)).mpr d
      rw [if_neg d1, if_pos (show v ≤ (2 : Int32) from d2), wq_bind]
      refine wq_mono (c_findFit hW htb hz (hne (by omega)) h hF hV) ?_
      rintro s ⟨a1, a2, a3, a4, a5⟩
      have h9 : s.1 39 9 = nI W.g := by rw [anX_t a5 (by decide)]; exact htb.2.1
      rw [a3]
      by_cases z : (fitL W H).length = 0
      · rw [if_pos (by rw [nI_eq0 (by omega)]; exact z), if_neg (fun q => by have := q.2; omega), wq_some]
        exact ⟨rfl, a1, a5⟩
      · rw [if_neg (by rw [nI_eq0 (by omega)]; exact z), if_pos ⟨d, by omega⟩, c_bestT hW h9 a2 a3 a4, wq_bind, wq_some]
        have hgd := tlN_g (W := W) (l := fitL W H) 16 (Nat.le_refl _)
        have hs : tlN W (fitL W H) 16 ≠ none := tlI_some W.g (by omega)
        cases ho : tlN W (fitL W H) 16 with
        | none => exact absurd ho hs
        | some x =>
          obtain ⟨g1, g2, g3⟩ := hgd x ho
          have q1 : nI (q5 (some x)) / (5 : Int32) = nI x.1 := by
            rw [show (5 : Int32) = nI 5 from rfl, show q5 (some x) = 5 * x.1 + x.2.1 from rfl, nI_div (by omega) (by omega)]
            congr 1
            omega
          have q2 : fhrem (nI (q5 (some x))) (5 : Int32) = nI x.2.1 := by
            rw [show (5 : Int32) = nI 5 from rfl, show q5 (some x) = 5 * x.1 + x.2.1 from rfl, ph_rem (by omega) (by omega) (by omega)]
            congr 1
            omega
          rw [q1, q2]
          unfold tlV
          (try dsimp only)
          by_cases v0 : v = (0 : Int32)
          · rw [if_pos v0, if_pos v0, wq_some]
            exact ⟨rfl, a1, a5⟩
          · rw [if_neg v0, if_neg v0]
            by_cases v1 : v = (1 : Int32)
            · rw [if_pos v1, if_pos v1, wq_some]
              exact ⟨rfl, a1, a5⟩
            · rw [if_neg v1, if_neg v1, c_mostL hW a2 a3 a4 (by omega) g2, wq_bind, wq_some, wq_some]
              exact ⟨by rw [g3], a1, a5⟩
    · rw [if_neg (c := inB v 3 ∧ 0 < (fitL W H).length) (fun z => d z.1)]
      by_cases d1 : v < 0
      · rw [if_pos d1, wq_some]
        exact ⟨rfl, h, anX_rf⟩
      · rw [if_neg d1, if_neg (fun (d2 : v ≤ (2 : Int32)) => d ((inB_2 (c := 2) (by omega)).mp ⟨d1, d2⟩)), wq_some]
        exact ⟨rfl, h, anX_rf⟩
end
