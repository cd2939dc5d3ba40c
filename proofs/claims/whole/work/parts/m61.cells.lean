/-! CELLS, and what a symbolic place must be -/
theorem fhsw_c {Y : fhY} {Γ : fhX} {lv : List (Nat × Value)} {st : List Value} {σ : fhM} {x k : Int32} {t dflt : Nat} {r : List (Int32 × Nat)} (h1 : x = k → fhW Y Γ t lv st σ) (h2 : ¬ x = k → fhsw Y Γ lv st σ x dflt r) : fhsw Y Γ lv st σ x dflt ((k, t) :: r) := ⟨h1, h2⟩
theorem fhsw_n {Y : fhY} {Γ : fhX} {lv : List (Nat × Value)} {st : List Value} {σ : fhM} {x : Int32} {dflt : Nat} (h : fhW Y Γ dflt lv st σ) : fhsw Y Γ lv st σ x dflt [] := h
theorem fhiP_or {t : Nat} (h : fhiP t = true) : t = 15 ∨ t = 27 := by
  unfold fhiP at h
  rw [Bool.or_eq_true] at h
  rcases h with h | h
  · exact Or.inl (Nat.eq_of_beq_eq_true h)
  · exact Or.inr (Nat.eq_of_beq_eq_true h)
theorem fhiK_or {t : Nat} (h : fhiK t = true) : t = 6 ∨ t = 16 ∨ t = 28 := by
  unfold fhiK at h
  rw [Bool.or_eq_true, Bool.or_eq_true] at h
  rcases h with h | h | h
  · exact Or.inl (Nat.eq_of_beq_eq_true h)
  · exact Or.inr (Or.inl (Nat.eq_of_beq_eq_true h))
  · exact Or.inr (Or.inr (Nat.eq_of_beq_eq_true h))
theorem fhiP_ind {p : Nat → Prop} {t : Nat} (h : fhiP t = true) (h1 : p 15) (h2 : p 27) : p t := by
  rcases fhiP_or h with rfl | rfl
  · exact h1
  · exact h2
theorem fhiC_f {t : Nat} (h : fhiC t = true) : Nat.beq (fhYF.1 t).1 0 = true ∧ Nat.beq (fhYF.1 t).2.1 2 = true ∧ Nat.blt t 102 = true ∧ Nat.blt 0 (fhYF.1 t).2.2 = true ∧ Nat.beq (fhYF.1 (t + 1)).1 1 = true ∧ Nat.beq (fhYF.1 (t + 1)).2.1 0 = true ∧ Nat.blt (t + 1) 102 = true := by
  unfold fhiC at h
  simp only [Bool.and_eq_true] at h
  obtain ⟨⟨a, b, c, d⟩, e, f, g⟩ := h
  exact ⟨a, b, c, d, e, f, g⟩
theorem fhiC_g {t : Nat} (h : fhiC t = true) : (Nat.beq (fhYF.1 t).1 0 && (Nat.beq (fhYF.1 t).2.1 2 && (Nat.blt t fhYF.2.2 && true))) = true := by
  obtain ⟨a, b, c, -⟩ := fhiC_f h
  have c' : Nat.blt t fhYF.2.2 = true := c
  rw [a, b, c']; rfl
theorem fhiP_g {t : Nat} (h : fhiP t = true) : (Nat.beq (fhYF.1 t).1 0 && (Nat.beq (fhYF.1 t).2.1 7 && (Nat.blt t fhYF.2.2 && true))) = true := by
  rcases fhiP_or h with rfl | rfl <;> rfl
theorem fhiK_g {t : Nat} (h : fhiK t = true) : (Nat.beq (fhYF.1 t).1 0 && (Nat.beq (fhYF.1 t).2.1 3 && (Nat.blt t fhYF.2.2 && true))) = true := by
  rcases fhiK_or h with rfl | rfl | rfl <;> rfl
theorem fcL_small (t : Nat) : fcL t < 2 ^ 31 := by
  have h : ∀ (l : List (Nat × Nat × Nat)), (∀ q ∈ l, q.2.2 < 2 ^ 31) → ∀ n, (fhnd (9, 0, 0) l n).2.2 < 2 ^ 31 := by
    intro l
    induction l with
    | nil => intro _ n; show 0 < 2 ^ 31; decide
    | cons a l ih =>
      intro h n
      cases n with
      | zero => exact h a List.mem_cons_self
      | succ n => exact ih (fun q hq => h q (List.mem_cons_of_mem _ hq)) n
  exact h fhplF (by decide +kernel) (t + 1)
theorem fhin_no1 {k : Int32} {n : Nat} (h : k < 0) : fhin k n = false := by
  unfold fhin
  rw [decide_eq_true h]
  rfl
theorem fhin_no2 {k : Int32} {n : Nat} (hn : n < 2 ^ 31) (h : Int32.ofNat n ≤ k) : fhin k n = false := by
  cases e : fhin k n with
  | false => rfl
  | true =>
    obtain ⟨j, hj, rfl⟩ := vp_in_of (fhin_vp e) hn
    exact absurd h (nI_ge hj hn)
theorem fhin_yes {k : Int32} {n : Nat} (hn : n < 2 ^ 31) (h0 : ¬ k < 0) (h : ¬ Int32.ofNat n ≤ k) : fhin k n = true := by
  obtain ⟨j, hj, rfl⟩ := nI_of h0
  have hjn : j < n := by
    rcases Nat.lt_or_ge j n with q | q
    · exact q
    · exact absurd (nI_le q hj) h
  unfold fhin
  rw [decide_eq_false h0, nI_clamp hj, decide_eq_true hjn]
  rfl
set_option maxRecDepth 100000 in
theorem T_X2_get {E : fhE} {d : Nat} (hE : fhEok fhYF E) (hd : 0 ≤ d) (t : Nat) (k : Int32) (ht : fhiC t = true) (σ : fhM) : fhC fhYF E d miX2_get [.ref t, .int k] σ (some (.int (fcG σ t k))) σ := by
  obtain ⟨a, b, c, e, f, g, i⟩ := fhiC_f ht
  have c' : Nat.blt t fhYF.2.2 = true := c
  have i' : Nat.blt (t + 1) fhYF.2.2 = true := i
  have g' : Nat.blt (fhYF.1 (t + 1)).2.1 4 = true := by rw [Nat.eq_of_beq_eq_true g]; rfl
  refine fhC.of (y := yX2_get) (cc := cX2_get) (nL := 2) (ret := some .int) 2 rfl (by decide +kernel) (Nat.le_of_ble_eq_true rfl) ?_
  intro Γ hΓ hR hD hEn
  have last : fcG σ t k = 0 → fhW fhYF Γ 22 [(0, .ref t), (1, .int k)] [] σ := by
    intro h
    rw [h] at hR
    refine fhW.blk fhPF fhLL hΓ [(.iconst 0, 0)] (pc' := 23) (lv' := [(0, .ref t), (1, .int k)]) (st' := [.int 0]) (σ' := σ) (by decide +kernel) rfl rfl rfl ?_
    exact fhW.iret hΓ (by decide +kernel) hR
  show fhW fhYF Γ 0 [(0, .ref t), (1, .int k)] [] σ
  refine fhW.blk fhPF fhLL hΓ [(.iload_n 1, 0)] (pc' := 1) (lv' := [(0, .ref t), (1, .int k)]) (st' := [.int k]) (σ' := σ) (by decide +kernel) rfl rfl rfl ?_
  refine fhW.z_lt hΓ (tgt := 22) (show fhbk _ _ (.ifCond .lt (21)) _ = true by decide +kernel) (fun hc => last (by unfold fcG; rw [fhin_no1 hc]; rfl)) (fun hc => ?_)
  refine fhW.blk fhPF fhLL hΓ [(.iload_n 1, 0), (.aload_n 0, 0), (.getfield 13, 0), (.arraylength, 0)] (pc' := 10) (lv' := [(0, .ref t), (1, .int k)]) (st' := [.int (Int32.ofNat (fcL t)), .int k]) (σ' := σ) (g := (Nat.beq (fhYF.1 t).1 0 && (Nat.beq (fhYF.1 t).2.1 2 && (Nat.blt t fhYF.2.2 && Nat.blt 0 (fhYF.1 t).2.2))) && ((Nat.beq (fhYF.1 (t + 1)).1 1 && (Nat.blt (t + 1) fhYF.2.2 && Nat.blt (fhYF.1 (t + 1)).2.1 4)) && true)) (by decide +kernel) rfl rfl (by rw [a, b, c', e, f, i', g']; rfl) ?_
  refine fhW.i_ge hΓ (tgt := 22) (show fhbk _ _ (.if_icmp .ge (12)) _ = true by decide +kernel) (fun hc2 => last (by unfold fcG; rw [fhin_no2 (fcL_small t) hc2]; rfl)) (fun hc2 => ?_)
  have hin := fhin_yes (fcL_small t) hc hc2
  have hin' : fhin k (fhYF.1 (t + 1)).2.2 = true := hin
  refine fhW.blk fhPF fhLL hΓ [(.aload_n 0, 0), (.getfield 13, 0), (.iload_n 1, 0), (.iaload, 0)] (pc' := 19) (lv' := [(0, .ref t), (1, .int k)]) (st' := [.int (σ.1 (t + 1) (fhix k))]) (σ' := σ) (g := (Nat.beq (fhYF.1 t).1 0 && (Nat.beq (fhYF.1 t).2.1 2 && (Nat.blt t fhYF.2.2 && Nat.blt 0 (fhYF.1 t).2.2))) && ((Nat.beq (fhYF.1 (t + 1)).1 1 && (Nat.beq (fhYF.1 (t + 1)).2.1 0 && (Nat.blt (t + 1) fhYF.2.2 && fhin k (fhYF.1 (t + 1)).2.2))) && true)) (by decide +kernel) rfl rfl (by rw [a, b, c', e, f, g, i', hin']; rfl) ?_
  refine fhW.goto hΓ (off := 4) (tgt := 23) (by decide +kernel) ?_
  refine fhW.iret hΓ (by decide +kernel) ?_
  have hv : fcG σ t k = σ.1 (t + 1) (fhix k) := by unfold fcG; rw [hin]; rfl
  rw [← hv]
  exact hR
set_option maxRecDepth 100000 in
theorem T_X2_put {E : fhE} {d : Nat} (hE : fhEok fhYF E) (hd : 0 ≤ d) (t : Nat) (k v : Int32) (ht : fhiC t = true) (σ : fhM) : fhC fhYF E d miX2_put [.ref t, .int k, .int v] σ none (fcP σ t k v) := by
  obtain ⟨a, b, c, e, f, g, i⟩ := fhiC_f ht
  have c' : Nat.blt t fhYF.2.2 = true := c
  have i' : Nat.blt (t + 1) fhYF.2.2 = true := i
  have g' : Nat.blt (fhYF.1 (t + 1)).2.1 4 = true := by rw [Nat.eq_of_beq_eq_true g]; rfl
  refine fhC.of (y := yX2_put) (cc := cX2_put) (nL := 3) (ret := none) 2 rfl (by decide +kernel) (Nat.le_of_ble_eq_true rfl) ?_
  intro Γ hΓ hR hD hEn
  have last : fhin k (fcL t) = false → fhW fhYF Γ 20 [(0, .ref t), (1, .int k), (2, .int v)] [] σ := by
    intro h
    have e2 : fcP σ t k v = σ := by
      unfold fcP
      rw [h]
      have e3 : (fun (a j : Nat) => bif Nat.beq a (t + 1) && (Nat.beq j (fhix k) && false) then v else σ.1 a j) = σ.1 := by
        funext x y
        rw [Bool.and_false, Bool.and_false]
        rfl
      rw [e3]
    rw [e2] at hR
    exact fhW.vret hΓ (by decide +kernel) hR
  show fhW fhYF Γ 0 [(0, .ref t), (1, .int k), (2, .int v)] [] σ
  refine fhW.blk fhPF fhLL hΓ [(.iload_n 1, 0)] (pc' := 1) (lv' := [(0, .ref t), (1, .int k), (2, .int v)]) (st' := [.int k]) (σ' := σ) (by decide +kernel) rfl rfl rfl ?_
  refine fhW.z_lt hΓ (tgt := 20) (show fhbk _ _ (.ifCond .lt (19)) _ = true by decide +kernel) (fun hc => last (fhin_no1 hc)) (fun hc => ?_)
  refine fhW.blk fhPF fhLL hΓ [(.iload_n 1, 0), (.aload_n 0, 0), (.getfield 13, 0), (.arraylength, 0)] (pc' := 10) (lv' := [(0, .ref t), (1, .int k), (2, .int v)]) (st' := [.int (Int32.ofNat (fcL t)), .int k]) (σ' := σ) (g := (Nat.beq (fhYF.1 t).1 0 && (Nat.beq (fhYF.1 t).2.1 2 && (Nat.blt t fhYF.2.2 && Nat.blt 0 (fhYF.1 t).2.2))) && ((Nat.beq (fhYF.1 (t + 1)).1 1 && (Nat.blt (t + 1) fhYF.2.2 && Nat.blt (fhYF.1 (t + 1)).2.1 4)) && true)) (by decide +kernel) rfl rfl (by rw [a, b, c', e, f, i', g']; rfl) ?_
  refine fhW.i_ge hΓ (tgt := 20) (show fhbk _ _ (.if_icmp .ge (10)) _ = true by decide +kernel) (fun hc2 => last (fhin_no2 (fcL_small t) hc2)) (fun hc2 => ?_)
  have hin := fhin_yes (fcL_small t) hc hc2
  have hin' : fhin k (fhYF.1 (t + 1)).2.2 = true := hin
  refine fhW.blk fhPF fhLL hΓ [(.aload_n 0, 0), (.getfield 13, 0), (.iload_n 1, 0), (.iload_n 2, 0), (.iastore, 0)] (pc' := 20) (lv' := [(0, .ref t), (1, .int k), (2, .int v)]) (st' := []) (σ' := fhI σ (t + 1) (fhix k) v) (g := (Nat.beq (fhYF.1 t).1 0 && (Nat.beq (fhYF.1 t).2.1 2 && (Nat.blt t fhYF.2.2 && Nat.blt 0 (fhYF.1 t).2.2))) && ((Nat.beq (fhYF.1 (t + 1)).1 1 && (Nat.beq (fhYF.1 (t + 1)).2.1 0 && (Nat.blt (t + 1) fhYF.2.2 && fhin k (fhYF.1 (t + 1)).2.2))) && true)) (by decide +kernel) rfl rfl (by rw [a, b, c', e, f, g, i', hin']; rfl) ?_
  have hv : fcP σ t k v = fhI σ (t + 1) (fhix k) v := by
    unfold fcP fhI fhup
    rw [hin]
    have e3 : (fun (a j : Nat) => bif Nat.beq a (t + 1) && (Nat.beq j (fhix k) && true) then v else σ.1 a j) = (fun a j => bif Nat.beq a (t + 1) && Nat.beq j (fhix k) then v else σ.1 a j) := by
      funext x y
      rw [Bool.and_true]
    rw [e3]
  rw [hv] at hR
  exact fhW.vret hΓ (by decide +kernel) hR
def fcWk (σ : fhM) (t n : Nat) : fhM := (fun a j => bif Nat.beq a (t + 1) && Nat.blt j n then 0 else σ.1 a j, σ.2)
theorem fcWk_s (σ : fhM) (t n : Nat) : fhI (fcWk σ t n) (t + 1) n 0 = fcWk σ t (n + 1) := by
  unfold fhI fcWk
  refine congrArg (fun f => (f, σ.2)) ?_
  funext a j
  rw [fhup_if]
  dsimp only
  by_cases ha : a = t + 1
  · subst ha
    rw [Nat.beq_refl]
    by_cases hj : j = n
    · subst hj
      rw [if_pos ⟨rfl, rfl⟩, show Nat.blt j (j + 1) = true from Nat.ble_eq_true_of_le (Nat.le_refl _)]
      rfl
    · rw [if_neg (fun q => hj q.2)]
      have e : Nat.blt j n = Nat.blt j (n + 1) := by
        rw [Bool.eq_iff_iff]
        constructor
        · intro q; exact Nat.ble_eq_true_of_le (by have := fhblt q; omega)
        · intro q; exact Nat.ble_eq_true_of_le (by have := fhblt q; omega)
      rw [e]
  · rw [if_neg (fun q => ha q.1)]
    have e : Nat.beq a (t + 1) = false := by
      cases q : Nat.beq a (t + 1) with
      | true => exact absurd (Nat.eq_of_beq_eq_true q) ha
      | false => rfl
    rw [e]
    rfl
theorem fcWk_0 (σ : fhM) (t : Nat) : fcWk σ t 0 = σ := by
  unfold fcWk
  have e3 : (fun (a j : Nat) => bif Nat.beq a (t + 1) && Nat.blt j 0 then 0 else σ.1 a j) = σ.1 := by
    funext a j
    rw [show Nat.blt j 0 = false from rfl, Bool.and_false]
    rfl
  rw [e3]
set_option maxRecDepth 100000 in
theorem T_X2_wipe {E : fhE} {d : Nat} (hE : fhEok fhYF E) (hd : 0 ≤ d) (t : Nat) (ht : fhiC t = true) (σ : fhM) : fhC fhYF E d miX2_wipe [.ref t] σ none (fcW σ t) := by
  obtain ⟨a, b, c, e, f, g, i⟩ := fhiC_f ht
  have c' : Nat.blt t fhYF.2.2 = true := c
  have i' : Nat.blt (t + 1) fhYF.2.2 = true := i
  have g' : Nat.blt (fhYF.1 (t + 1)).2.1 4 = true := by rw [Nat.eq_of_beq_eq_true g]; rfl
  refine fhC.of (y := yX2_wipe) (cc := cX2_wipe) (nL := 2) (ret := none) 2 rfl (by decide +kernel) (Nat.le_of_ble_eq_true rfl) ?_
  intro Γ hΓ hR hD hEn
  have loop : ∀ m k : Nat, k + m = fcL t → fhW fhYF Γ 2 [(1, .int (nI k)), (0, .ref t)] [] (fcWk σ t k) := by
    intro m
    induction m with
    | zero =>
      intro k hk
      have hk : k = fcL t := hk
      refine fhW.blk fhPF fhLL hΓ [(.iload_n 1, 0), (.aload_n 0, 0), (.getfield 13, 0), (.arraylength, 0)] (pc' := 8) (lv' := [(1, .int (nI k)), (0, .ref t)]) (st' := [.int (Int32.ofNat (fcL t)), .int (nI k)]) (σ' := fcWk σ t k) (g := (Nat.beq (fhYF.1 t).1 0 && (Nat.beq (fhYF.1 t).2.1 2 && (Nat.blt t fhYF.2.2 && Nat.blt 0 (fhYF.1 t).2.2))) && ((Nat.beq (fhYF.1 (t + 1)).1 1 && (Nat.blt (t + 1) fhYF.2.2 && Nat.blt (fhYF.1 (t + 1)).2.1 4)) && true)) (by decide +kernel) rfl rfl (by rw [a, b, c', e, f, i', g']; rfl) ?_
      refine fhW.i_ge hΓ (tgt := 24) (show fhbk _ _ (.if_icmp .ge (16)) _ = true by decide +kernel) (fun hc => ?_) (fun hc => absurd (by rw [hk]; exact Int32.le_refl _) hc)
      exact fhW.vret hΓ (by decide +kernel) (by rw [hk]; exact hR)
    | succ m ih =>
      intro k hk
      have hkl : k < fcL t := by omega
      have hin' : fhin (nI k) (fhYF.1 (t + 1)).2.2 = true := fhin_yes (fcL_small t) (nI_pos (by have := fcL_small t; omega)) (nI_ge hkl (fcL_small t))
      refine fhW.blk fhPF fhLL hΓ [(.iload_n 1, 0), (.aload_n 0, 0), (.getfield 13, 0), (.arraylength, 0)] (pc' := 8) (lv' := [(1, .int (nI k)), (0, .ref t)]) (st' := [.int (Int32.ofNat (fcL t)), .int (nI k)]) (σ' := fcWk σ t k) (g := (Nat.beq (fhYF.1 t).1 0 && (Nat.beq (fhYF.1 t).2.1 2 && (Nat.blt t fhYF.2.2 && Nat.blt 0 (fhYF.1 t).2.2))) && ((Nat.beq (fhYF.1 (t + 1)).1 1 && (Nat.blt (t + 1) fhYF.2.2 && Nat.blt (fhYF.1 (t + 1)).2.1 4)) && true)) (by decide +kernel) rfl rfl (by rw [a, b, c', e, f, i', g']; rfl) ?_
      refine fhW.i_ge hΓ (tgt := 24) (show fhbk _ _ (.if_icmp .ge (16)) _ = true by decide +kernel) (fun hc => absurd hc (nI_ge hkl (fcL_small t))) (fun hc => ?_)
      refine fhW.blk fhPF fhLL hΓ [(.aload_n 0, 0), (.getfield 13, 0), (.iload_n 1, 0), (.iconst 0, 0), (.iastore, 0), (.iinc 1 1, 1)] (pc' := 21) (lv' := [(1, .int (nI k + 1)), (0, .ref t)]) (st' := []) (σ' := fhI (fcWk σ t k) (t + 1) (fhix (nI k)) 0) (g := (Nat.beq (fhYF.1 t).1 0 && (Nat.beq (fhYF.1 t).2.1 2 && (Nat.blt t fhYF.2.2 && Nat.blt 0 (fhYF.1 t).2.2))) && ((Nat.beq (fhYF.1 (t + 1)).1 1 && (Nat.beq (fhYF.1 (t + 1)).2.1 0 && (Nat.blt (t + 1) fhYF.2.2 && fhin (nI k) (fhYF.1 (t + 1)).2.2))) && true)) (by decide +kernel) rfl rfl (by rw [a, b, c', e, f, g, i', hin']; rfl) ?_
      refine fhW.goto hΓ (off := (-19)) (tgt := 2) (by decide +kernel) ?_
      have hx : fhix (nI k) = k := nI_clamp (by have := fcL_small t; omega)
      rw [hx, fcWk_s, nI_1]
      exact ih (k + 1) (by omega)
  show fhW fhYF Γ 0 [(0, .ref t)] [] σ
  refine fhW.blk fhPF fhLL hΓ [(.iconst 0, 0), (.istore_n 1, 0)] (pc' := 2) (lv' := [(1, .int 0), (0, .ref t)]) (st' := []) (σ' := σ) (by decide +kernel) rfl rfl rfl ?_
  have h0 := loop (fcL t) 0 (by omega)
  rw [fcWk_0] at h0
  exact h0
/-! a char or int array whose place is a variable -/
theorem fhsW {w : Nat} {q : Bool} (h : fhiW w = true) (hq : (q && true) = true) : ((Nat.beq (fhYM.1 w).1 1 && (Nat.beq (fhYM.1 w).2.1 1 && (Nat.blt w fhYM.2.2 && q))) && true) = true := by
  unfold fhiW at h
  simp only [Bool.and_eq_true] at h
  have h3 : Nat.blt w fhYM.2.2 = true := h.2.2.1
  rw [h.1, h.2.1, h3]
  simpa using hq
theorem fhsA {w : Nat} {q : Bool} (h : fhiA w = true) (hq : (q && true) = true) : ((Nat.beq (fhYM.1 w).1 1 && (Nat.beq (fhYM.1 w).2.1 0 && (Nat.blt w fhYM.2.2 && q))) && true) = true := by
  unfold fhiA at h
  simp only [Bool.and_eq_true] at h
  have h3 : Nat.blt w fhYM.2.2 = true := h.2.2.1
  rw [h.1, h.2.1, h3]
  simpa using hq
theorem fhsWl {w : Nat} (h : fhiW w = true) : ((Nat.beq (fhYM.1 w).1 1 && (Nat.blt w fhYM.2.2 && Nat.blt (fhYM.1 w).2.1 4)) && true) = true := by
  unfold fhiW at h
  simp only [Bool.and_eq_true] at h
  have h3 : Nat.blt w fhYM.2.2 = true := h.2.2.1
  rw [h.1, h3, Nat.eq_of_beq_eq_true h.2.1]
  rfl
theorem fhW.nest {own : Nat} {cc : ByteArray} {nL : Nat} {ret : Option FieldType} {Γ : fhX} (hE : fhEok fhYF (fhEn Γ)) (hΓ : fhOk fhYF 4 cc nL ret Γ) {pc : Nat} {lv : List (Nat × Value)} {st : List Value} {σ : fhM} (hd : decode cc pc = .ok (.getfield 103, 3)) (kk : fhW fhYF Γ (pc + 3) lv (.ref 48 :: st) σ) : fhW fhYF Γ pc lv (.ref 39 :: st) σ := by
  obtain ⟨⟨l, D, b, cA, X⟩, d, p, e, s, m, args, below, meth, c, r, σe⟩ := Γ
  obtain ⟨hx, hb, hml, hown, hts, hK, hrt, hlk, hX, hXs⟩ := hΓ
  have hN := (hE s hX).1
  intro ls H locs hl hP hS
  obtain ⟨ha, -, -, -⟩ := fhobj_at (Y := fhYF) (b := b) (cA := cA) (σ := σ) (t := 39) (x := 9) (q := true) rfl
  obtain ⟨hc, hin, -, -⟩ := fhcl_ok 9 (by decide)
  exact va_getN (own := RX4) (ref := RX9) (host := RX11) hx hb hts hin hown hK hP 39 ha hc 4 (by decide) (va_tabs rfl rfl hN) (fun _ h => h) (v := .ref (b + 48)) rfl hd (kk ls H locs hl hP hS)
