section
variable {T : tT} {m K P : Nat} {q : Bool} {nl : List (List Nat)} {n : Nat}
theorem c_isNumber {T : tT} {m k : Nat} {σ : fhM} (h : cP T m k σ) : (f_X8_isNumber σ = true) = (kd T k = 2) := by
  have a1 := kd_le4 T k
  unfold f_X8_isNumber
  rw [h.2.2.2.2.2.2.2.1]
  by_cases q : kd T k = 2
  · rw [if_pos (show nI (kd T k) = (2 : Int32) by rw [q]; rfl)]; exact propext ⟨fun _ => q, fun _ => rfl⟩
  · rw [if_neg (show ¬ nI _ = (2 : Int32) from nIn q (b := 2) (by omega) (by decide))]; exact propext ⟨fun z => (by cases z), fun z => absurd z q⟩
theorem c_lkb {k : Nat} (hm : tend T m) {o : Nat} {out : gC} {σ : fhM} (h : cG T m K P q nl o k out σ) : (f_X5_isLookingWord σ = true) = (lkx q T k ≠ none) := by
  have w12 : (f_X8_isWord 12 σ = true) = isw T k 12 := c_isWord (j := 12) hm h.1 (by decide)
  have w18 : (f_X8_isWord 18 σ = true) = isw T k 18 := c_isWord (j := 18) hm h.1 (by decide)
  have w19 : (f_X8_isWord 19 σ = true) = isw T k 19 := c_isWord (j := 19) hm h.1 (by decide)
  unfold f_X5_isLookingWord lkx f_X5_isLookingWord_31
  rw [h.2.2.2.2.2.1.2.2.1]
  unfold isw at w12 w18 w19
  cases q with
  | true =>
    rw [if_neg (show ¬ ((if true = true then (1 : Int32) else 0) = 0) by decide)]
    by_cases hk : kd T k = 1
    · rw [if_pos hk]
      by_cases a : ow (lt T k) = 18
      · rw [if_pos (by rw [w18]; exact ⟨hk, a⟩)]
        show _ = ((if ow (lt T k) = 18 then some 20 else _) ≠ none)
        rw [if_pos a]
        exact propext ⟨fun _ z => (by cases z), fun _ => rfl⟩
      · rw [if_neg (by rw [w18]; exact fun z => a z.2)]
        show _ = ((if ow (lt T k) = 18 then some 20 else if ow (lt T k) = 19 then some 25 else none) ≠ none)
        rw [if_neg a]
        by_cases b : ow (lt T k) = 19
        · rw [if_pos (by rw [w19]; exact ⟨hk, b⟩), if_pos b]
          exact propext ⟨fun _ z => (by cases z), fun _ => rfl⟩
        · rw [if_neg (by rw [w19]; exact fun z => b z.2), if_neg b]
          exact propext ⟨fun z => (by cases z), fun z => absurd rfl z⟩
    · rw [if_neg hk, if_neg (by rw [w18]; exact fun z => hk z.1), if_neg (by rw [w19]; exact fun z => hk z.1)]
      exact propext ⟨fun z => (by cases z), fun z => absurd rfl z⟩
  | false =>
    rw [if_pos (show ((if false = true then (1 : Int32) else 0) = 0) by decide), w12]
    by_cases hk : kd T k = 1
    · rw [if_pos hk]
      show _ = ((if ow (lt T k) = 12 then some 15 else none) ≠ none)
      by_cases a : ow (lt T k) = 12
      · rw [if_pos a]; exact propext ⟨fun _ z => (by cases z), fun _ => ⟨hk, a⟩⟩
      · rw [if_neg a]; exact propext ⟨fun z => absurd z.2 a, fun z => absurd rfl z⟩
    · rw [if_neg hk]; exact propext ⟨fun z => absurd z.1 hk, fun z => absurd rfl z⟩
/-- of which word -/
theorem c_lkv {k b : Nat} (hm : tend T m) {o : Nat} {out : gC} {σ : fhM} (h : cG T m K P q nl o k out σ) (hb : lkx q T k = some b) : (if f_X8_isWord 18 σ = true then (20 : Int32) else (if f_X8_isWord 19 σ = true then (25 : Int32) else (15 : Int32))) = nI b ∧ b < 100 := by
  have w18 : (f_X8_isWord 18 σ = true) = isw T k 18 := c_isWord (j := 18) hm h.1 (by decide)
  have w19 : (f_X8_isWord 19 σ = true) = isw T k 19 := c_isWord (j := 19) hm h.1 (by decide)
  unfold isw at w18 w19
  have hk := lkx_k hb
  unfold lkx at hb
  rw [if_pos hk] at hb
  cases q with
  | true =>
    have hb : (if ow (lt T k) = 18 then some 20 else if ow (lt T k) = 19 then some 25 else none) = some b := hb
    by_cases a : ow (lt T k) = 18
    · rw [if_pos a] at hb
      cases hb
      rw [if_pos (by rw [w18]; exact ⟨hk, a⟩)]
      exact ⟨rfl, by decide⟩
    · rw [if_neg a] at hb
      by_cases c : ow (lt T k) = 19
      · rw [if_pos c] at hb
        cases hb
        rw [if_neg (by rw [w18]; exact fun z => a z.2), if_pos (by rw [w19]; exact ⟨hk, c⟩)]
        exact ⟨rfl, by decide⟩
      · rw [if_neg c] at hb
        cases hb
  | false =>
    have hb : (if ow (lt T k) = 12 then some 15 else none) = some b := hb
    by_cases a : ow (lt T k) = 12
    · rw [if_pos a] at hb
      cases hb
      rw [if_neg (by rw [w18]; exact fun z => by have := z.2; omega), if_neg (by rw [w19]; exact fun z => by have := z.2; omega)]
      exact ⟨rfl, by decide⟩
    · rw [if_neg a] at hb
      cases hb
theorem c_leaf (hT : tOK T) (hm : tend T m) {o k : Nat} {out : gC} {σ : fhM} (h : cG T m K P q nl o k out σ) : wq (f_X5_leaf σ) (gP T m K P q nl o out (match lfx q nl T k with
    | some i => .inr (k + 1, [(1, i)])
    | none => .inl (1, fm T k)) σ) := by
  have hl := h.2.2.2.1
  have h83 : ∀ i, lfx q nl T k = some i → i < 1000 → wq (f_X5_leaf_83 (nI i) σ) (gP T m K P q nl o out (match lfx q nl T k with
    | some i => .inr (k + 1, [(1, i)])
    | none => .inl (1, fm T k)) σ) := by
    intro i hi hi2
    rw [hi]
    have hk := lfx_k hi
    unfold f_X5_leaf_83
    rw [if_neg (ph_m1n (by omega)), if_pos (cG_K h).1, wq_let, wq_let, wq_some, (cG_K h).2]
    obtain ⟨h1, h2, h3, h4, h5, h6, h7⟩ := h
    have hK := ph_K h6.2.2.2.1
    have hT2 := hT.1
    have hm1 := hm.1
    have hkm := c_kd hm (show kd T k ≠ 0 by omega)
    have f := c_addN K 1 (nI i) σ
    have a1 : cS K (out ++ [(1, i)]) (f_X3_add K 1 (nI i) σ) := c_add h6.2.2.2.1 h3 (by omega) (1, i) (Nat.le_of_ble_eq_true rfl) (by show i < 100000; omega)
    have a0 : cP T m k (f_X3_add K 1 (nI i) σ) := cP_fr h1 (fun j => f.2 _ _ (by unfold cDk; omega)) (fun j => f.2 _ _ (by unfold cDk; omega))
    obtain ⟨b1, b2⟩ := c_adv hT hm hkm a0
    refine gP_ok ⟨b1, by omega, ?_, by rw [List.length_append, List.length_singleton]; omega, ?_, ?_, fun hq => ?_⟩ (fr_tr (fr_mo f (fun _ _ z => Or.inr (Or.inl z))) (fr_mo b2 (fun _ _ z => Or.inl (cDa_f z))))
    · exact cS_fr a1 (b2.2 _ _ (by unfold cDa; omega)) (fun i => b2.2 _ _ (by unfold cDa; omega))
    · rw [b2.2 9 4 (by unfold cDa; omega), f.2 9 4 (by unfold cDk; omega)]; exact h5
    · exact cH_fr h6 (b2.1.trans f.1) ((b2.2 9 3 (by unfold cDa; omega)).trans (f.2 9 3 (by unfold cDk; omega)))
    · have hP := ph_P (h6.2.2.2.2 hq)
      exact cN_fr (h7 hq) ((b2.2 _ _ (by unfold cDa; omega)).trans (f.2 _ _ (by unfold cDk; omega))) (fun i => (b2.2 _ _ (by unfold cDa; omega)).trans (f.2 _ _ (by unfold cDk; omega)))
  have hno : lfx q nl T k = none → wq (f_X5_leaf_83 (-1) σ) (gP T m K P q nl o out (match lfx q nl T k with
    | some i => .inr (k + 1, [(1, i)])
    | none => .inl (1, fm T k)) σ) := by
    intro hi
    rw [hi]
    unfold f_X5_leaf_83
    rw [if_pos rfl, wq_let, wq_some]
    obtain ⟨a, b⟩ := c_failHere h.1
    obtain ⟨a2, b2⟩ := cG_bad h a b
    exact gP_bad a2 b2
  have hw := c_wh hm h.1
  have ho99 := ow_99 (l := lt T k)
  unfold f_X5_leaf
  rw [hw, h.2.2.2.2.2.1.2.2.1]
  unfold lfx at h83 hno ⊢
  by_cases hk : kd T k = 1
  · rw [if_pos hk] at h83 hno ⊢
    rw [if_pos hk]
    cases q with
    | true =>
      rw [if_neg (show ¬ ((if true = true then (1 : Int32) else 0) = 0) by decide)]
      unfold f_X5_leaf_36 f_X5_leaf_37
      simp only [cond_true] at h83 hno ⊢
      by_cases a : ow (lt T k) < 13
      · rw [if_pos (show nI (ow (lt T k)) < (13 : Int32) from nI_lt (b := 13) a (by decide))]
        exact hno (if_neg (by omega))
      · rw [if_neg (show ¬ nI (ow (lt T k)) < (13 : Int32) from nI_nlt (b := 13) (by omega) (by omega))]
        by_cases b : 17 < ow (lt T k)
        · rw [if_pos (show (17 : Int32) < nI (ow (lt T k)) from nI_lt (a := 17) b (by omega))]
          exact hno (if_neg (by omega))
        · rw [if_neg (show ¬ (17 : Int32) < nI (ow (lt T k)) from nI_nlt (a := 17) (by omega) (by decide))]
          have e : (-3 : Int32) + nI (ow (lt T k)) = nI (ow (lt T k) - 3) := by
            have : ∀ x, x < 40 → 3 ≤ x → (-3 : Int32) + nI x = nI (x - 3) := by decide
            exact this _ (by omega) (by omega)
          rw [e]
          exact h83 _ (if_pos (by omega)) (by omega)
    | false =>
      rw [if_pos (show ((if false = true then (1 : Int32) else 0) = 0) by decide)]
      simp only [cond_false] at h83 hno ⊢
      have h61 : ¬ (8 ≤ ow (lt T k) ∧ ow (lt T k) ≤ 11) → wq (f_X5_leaf_61 (-1) σ) (gP T m K P false nl o out (match (if 8 ≤ ow (lt T k) ∧ ow (lt T k) ≤ 11 then some (ow (lt T k) - 3) else nix nl 0 (lt T k)) with
        | some i => .inr (k + 1, [(1, i)])
        | none => .inl (1, fm T k)) σ) := by
        intro hne
        rw [if_neg hne] at h83 hno ⊢
        unfold f_X5_leaf_61
        have hP := h.2.2.2.2.2.1.2.2.2.2 rfl
        have hP2 := ph_P hP
        have hN := h.2.2.2.2.2.2 rfl
        rw [h.2.2.2.2.2.1.2.1, if_neg (by omega), if_pos hP, wq_bind]
        have hlh : f_X8_lettersHere σ = nI (val T k) := by
          unfold f_X8_lettersHere
          rw [h.1.2.2.2.2.2.2.2.1, hk, if_pos (by rfl)]
          exact (h.1.2.2.2.2.2.2.2.2 (c_kd hm (by omega))).1
        have hts := kd_13 (T := T) (k := k) (by omega)
        have hlt := lt_let hk
        rw [hlh]
        unfold val
        rw [if_pos (by omega)]
        by_cases h6 : to T k - fm T k ≤ 6
        · rw [if_pos h6, c_gn hP hN hlt (by rw [lt_len]; exact h6), wq_some]
          cases hx : nix nl 0 (lt T k) with
          | none =>
            rw [hx] at hno
            exact hno rfl
          | some i =>
            rw [hx] at h83
            have := nix_lt nl 0 i hx
            have h5 := hN.2.1
            exact h83 i rfl (by omega)
        · have hx : nix nl 0 (lt T k) = none := by
            refine nix_no nl 0 (fun j hj z => ?_)
            have := (hN.2.2 j _ z).2.1
            rw [lt_len] at this
            omega
          rw [hx] at hno ⊢
          rw [if_neg h6, show (nI 0 : Int32) = 0 from rfl, c_gn0 hP hN, wq_some]
          exact hno rfl
      by_cases a : ow (lt T k) < 8
      · rw [if_pos (show nI (ow (lt T k)) < (8 : Int32) from nI_lt (b := 8) a (by decide))]
        exact h61 (by omega)
      · rw [if_neg (show ¬ nI (ow (lt T k)) < (8 : Int32) from nI_nlt (b := 8) (by omega) (by omega))]
        by_cases b : 11 < ow (lt T k)
        · rw [if_pos (show (11 : Int32) < nI (ow (lt T k)) from nI_lt (a := 11) b (by omega))]
          exact h61 (by omega)
        · rw [if_neg (show ¬ (11 : Int32) < nI (ow (lt T k)) from nI_nlt (a := 11) (by omega) (by decide))]
          have e : (-3 : Int32) + nI (ow (lt T k)) = nI (ow (lt T k) - 3) := by
            have : ∀ x, x < 40 → 3 ≤ x → (-3 : Int32) + nI x = nI (x - 3) := by decide
            exact this _ (by omega) (by omega)
          rw [e]
          exact h83 _ (if_pos (by omega)) (by omega)
  · rw [if_neg hk] at h83 hno ⊢
    rw [if_neg hk]
    cases q with
    | true =>
      rw [if_neg (show ¬ ((if true = true then (1 : Int32) else 0) = 0) by decide), if_neg (show ¬ (nI 99 < (13 : Int32)) by decide), if_pos (show (17 : Int32) < nI 99 by decide)]
      exact hno rfl
    | false =>
      rw [if_pos (show ((if false = true then (1 : Int32) else 0) = 0) by decide), if_neg (show ¬ (nI 99 < (8 : Int32)) by decide), if_pos (show (11 : Int32) < nI 99 by decide)]
      unfold f_X5_leaf_61
      have hP := h.2.2.2.2.2.1.2.2.2.2 rfl
      have hP2 := ph_P hP
      have hN := h.2.2.2.2.2.2 rfl
      rw [h.2.2.2.2.2.1.2.1, if_neg (by omega), if_pos hP, wq_bind]
      have hlh : f_X8_lettersHere σ = 0 := by
        have a1 := kd_le4 T k
        unfold f_X8_lettersHere
        rw [h.1.2.2.2.2.2.2.2.1, if_neg (show ¬ nI _ = (1 : Int32) from nIn hk (b := 1) (by omega) (by decide))]
      rw [hlh, c_gn0 hP hN, wq_some]
      exact hno rfl
/-- opened, a SUM, a sign: of ( ) -/
theorem gA_part (hT : tOK T) (hm : tend T m) {o k : Nat} (ih : ∀ w o k, gA T m K P q nl n w o k) : gA T m K P q nl (n + 1) 5 o k := by
  intro r hr d i σ out hd ho h hi
  obtain ⟨d, rfl⟩ : ∃ d', d = d' + 1 := ⟨d - 1, by simp only [glv] at hd; omega⟩
  show wq (f_X5_part (fgR d) σ) _
  have hl := h.2.2.2.1
  have s40 : (f_X8_isSign 40 σ = true) = isg T k 40 := c_isSign (c := 40) hT hm h.1 (by decide)
  have s24 : (f_X8_isWord 24 σ = true) = isw T k 24 := c_isWord (j := 24) hm h.1 (by decide)
  have s25 : (f_X8_isWord 25 σ = true) = isw T k 25 := c_isWord (j := 25) hm h.1 (by decide)
  unfold f_X5_part
  have hr : gif (kd T k = 2) _ _ = some r := hr
  rcases gif_some hr with ⟨q1, hr⟩ | ⟨q1, hr⟩
  · rw [if_pos (by rw [c_isNumber h.1]; exact q1), wq_let, if_pos (cG_K h).1, wq_let, wq_some, (cG_K h).2]
    obtain ⟨n1, n2, n3⟩ := c_takeNumber hT hm h.1 q1
    by_cases q4 : 4 < to T k - fm T k
    · rw [if_pos q4] at hr
      rw [gbad_some hr]
      obtain ⟨a2, b2⟩ := cG_bad h (n2 q4) n3
      obtain ⟨g1, g2⟩ := cZ_add a2 0 (f_X8_takeNumber σ).1
      exact gP_bad g1 (fr_tr b2 g2)
    · rw [if_neg q4] at hr
      rw [gok_some hr]
      obtain ⟨e1, e2⟩ := n1 (by omega)
      have hkm := c_kd hm (show kd T k ≠ 0 by omega)
      have hb : nv T k < 10 ^ 4 := by
        have h0 : kd T k ≠ 0 := by omega
        have e := kd_13 (T := T) (k := k) (by omega)
        have := nmv_lt (T := T) (f := fm T k) (to T k - fm T k) (fun j hj => by rw [lt_sort h0 (by omega) (by omega) (by omega)]; omega)
        have hp : (10 : Nat) ^ (to T k - fm T k) ≤ 10 ^ 4 := Nat.pow_le_pow_right (by decide) (by omega)
        unfold nv
        omega
      have h2 : cG T m K P q nl o (k + 1) out (f_X8_takeNumber σ).2 := by
        obtain ⟨h1, h2, h3, h4, h5, h6, h7⟩ := h
        have hK := ph_K h6.2.2.2.1
        refine ⟨e2, by omega, cS_fr h3 (n3.2 _ _ (by unfold cDf; omega)) (fun i => n3.2 _ _ (by unfold cDf; omega)), by omega, ?_, cH_fr h6 n3.1 (n3.2 _ _ (by unfold cDf; omega)), fun hq => ?_⟩
        · rw [n3.2 _ _ (by unfold cDf; omega)]; exact h5
        · have hP := ph_P (h6.2.2.2.2 hq)
          exact cN_fr (h7 hq) (n3.2 _ _ (by unfold cDf; omega)) (fun i => n3.2 _ _ (by unfold cDf; omega))
      obtain ⟨b, g⟩ := cG_add hT hm h2 (by omega) (0, nv T k) (Nat.le_of_ble_eq_true rfl) (by show nv T k < 100000; omega)
      rw [e1]
      exact gP_ok b (fr_tr (fr_mo n3 (fun _ _ z => Or.inl z)) g)
  rw [if_neg (by rw [c_isNumber h.1]; exact q1)]
  rcases gif_some hr with ⟨q2, hr⟩ | ⟨q2, hr⟩
  · rw [if_pos (by rw [s40]; exact q2), wq_let]
    obtain ⟨d1, d2, d3⟩ := cG_deep hT hm h ho (isg_k q2)
    by_cases q6 : 6 ≤ o
    · rw [if_pos q6] at hr
      obtain ⟨e1, e2⟩ := d2 q6
      rw [gbad_some hr, e1, if_neg (by decide), wq_some]
      exact gP_bad e2 d3
    · rw [if_neg q6] at hr
      obtain ⟨e1, e2⟩ := d1 (by omega)
      rw [e1, if_pos rfl, wq_bind]
      rcases sq_some hr with ⟨e, h1, rfl⟩ | ⟨j, c, h1, h2⟩
      · refine wq_mono (ih 3 (o + 1) (k + 1) _ h1 d 0 _ out (by simp only [glv] at hd ⊢; omega) (by omega) e2 (Nat.zero_le _)) (fun s p => ?_)
        have p1 : cZ K P q e s := p.1
        rw [wq_let, wq_some, c_takeSignN p1.1]
        exact gP_bad (cZ_o p1 _).1 (fr_tr (fr_tr d3 p.2) (cZ_o p1 _).2)
      · refine wq_mono (ih 3 (o + 1) (k + 1) _ h1 d 0 _ out (by simp only [glv] at hd ⊢; omega) (by omega) e2 (Nat.zero_le _)) (fun s p => ?_)
        have p1 : cG T m K P q nl (o + 1) j (out ++ c) s := p.1
        obtain ⟨b1, b2, b3⟩ := gA_close (c := 41) hT hm p1 (by decide)
        rw [wq_let, wq_some]
        rcases h2 with ⟨e, h2, rfl⟩ | ⟨k2, c2, h2, rfl⟩
        · rcases sgn_some h2 with ⟨_, e3⟩ | ⟨z, e3⟩
          · cases e3
          · cases e3
            exact gP_bad (b2 z) (fr_tr (fr_tr d3 p.2) b3)
        · rcases sgn_some h2 with ⟨z, e3⟩ | ⟨_, e3⟩
          · cases e3
            refine gP_ok ?_ (fr_tr (fr_tr d3 p.2) b3)
            rw [List.append_nil]
            exact b1 z
          · cases e3
  rw [if_neg (by rw [s40]; exact q2)]
  rcases gif_some hr with ⟨q3, hr⟩ | ⟨q3, hr⟩
  · have hk0 : kd T k ≠ 0 := by
      rcases q3 with z | z
      · exact isw_k z
      · exact isw_k z
    have hop : ∃ op : Nat, (op = 8 ∨ op = 9) ∧ gif (isw T k 24) 8 9 = op ∧ (if f_X8_isWord 24 σ = true then (8 : Int32) else (9 : Int32)) = nI op := by
      by_cases z : isw T k 24
      · exact ⟨8, Or.inl rfl, gif_t z, by rw [if_pos (by rw [s24]; exact z)]; rfl⟩
      · exact ⟨9, Or.inr rfl, gif_f z, by rw [if_neg (by rw [s24]; exact z)]; rfl⟩
    obtain ⟨op, ho1, ho2, ho3⟩ := hop
    rw [ho2] at hr
    have main : wq (f_X5_part_97 (fgR d) σ) (gP T m K P q nl o out r σ) := by
      unfold f_X5_part_97 f_X5_part_117
      rw [ho3, wq_bind]
      obtain ⟨d, rfl⟩ : ∃ d', d = d' + 1 := ⟨d - 1, by simp only [glv] at hd; omega⟩
      have key : wq (f_X5_pair (fgR d) (nI op) σ) (gP T m K P q nl o out r σ) := by
        unfold f_X5_pair
        rw [wq_let]
        obtain ⟨a, f⟩ := cG_adv hT hm h hk0
        have t40 : (f_X8_isSign 40 (f_X8_advance σ) = true) = isg T (k + 1) 40 := c_isSign (c := 40) hT hm a.1 (by decide)
        rcases gif_some hr with ⟨z1, hr⟩ | ⟨z1, hr⟩
        · rw [if_pos (by rw [t40]; exact z1), wq_let]
          obtain ⟨d1, d2, d3⟩ := cG_deep hT hm a ho (isg_k z1)
          by_cases q6 : 6 ≤ o
          · rw [if_pos q6] at hr
            obtain ⟨e1, e2⟩ := d2 q6
            rw [gbad_some hr, e1, if_neg (by decide), wq_some]
            exact gP_bad e2 (fr_tr f d3)
          · rw [if_neg q6] at hr
            obtain ⟨e1, e2⟩ := d1 (by omega)
            have e2 : cG T m K P q nl (o + 1) (k + 2) out (f_X5_goDeeper (f_X8_advance σ)).2 := e2
            rw [e1, if_pos rfl, wq_bind]
            -- behind a fault inside
            have zz : ∀ (e : Nat × Nat) (s : fhM), cZ K P q e s → fr (gD K) σ s → wq (fgR d 3 0 s) (fun x => wq (fhlet (f_X8_takeSign (41 : Int32) x) fun q6 => if fhiK (q6.2.2 9 1) = true then fhlet (f_X3_add (q6.2.2 9 1) (nI op) (0 : Int32) q6) fun q7 => some (fhI q7 9 4 ((q7.1 9 4) - (1 : Int32))) else none) (gP T m K P q nl o out (.inl e) σ)) := by
              intro e s hz hf
              refine wq_mono (cZ_sum (by simp only [glv] at hd; omega) hz) (fun s2 p2 => ?_)
              rw [wq_let, c_takeSignN p2.1.1, if_pos (cH_K p2.1.2), wq_let, wq_some, p2.1.2.1]
              obtain ⟨g1, g2⟩ := cZ_add p2.1 (nI op) 0
              exact gP_bad (cZ_o g1 _).1 (fr_tr (fr_tr (fr_tr hf p2.2) g2) (cZ_o g1 _).2)
            rcases sq_some hr with ⟨e, h1, rfl⟩ | ⟨j, c, h1, h2⟩
            · refine wq_mono (ih 3 (o + 1) (k + 2) _ h1 d 0 _ out (by simp only [glv] at hd ⊢; omega) (by omega) e2 (Nat.zero_le _)) (fun s p => ?_)
              have p1 : cZ K P q e s := p.1
              rw [wq_let, wq_bind, c_takeSignN p1.1]
              exact zz e s p1 (fr_tr (fr_tr f d3) p.2)
            · have hfit : k + 2 + 1 ≤ j ∧ k + 2 + c.length ≤ j := rd_fit T q nl n 3 (o + 1) (k + 2) _ h1
              refine wq_mono (ih 3 (o + 1) (k + 2) _ h1 d 0 _ out (by simp only [glv] at hd ⊢; omega) (by omega) e2 (Nat.zero_le _)) (fun s p => ?_)
              have p1 : cG T m K P q nl (o + 1) j (out ++ c) s := p.1
              rw [wq_let, wq_bind]
              obtain ⟨b1, b2, b3⟩ := c_takeSign (c := 44) hT hm p1.1 (by decide)
              by_cases z2 : isg T j 44
              · have e44 : f_X8_takeSign 44 s = f_X8_advance s := by
                  unfold f_X8_takeSign f_X8_takeSign_12 fhlet
                  (try dsimp only)
                  rw [if_pos (by rw [show (44 : Int32) = nI 44 from rfl, c_isSign hT hm p1.1 (by decide)]; exact z2)]
                obtain ⟨g1, g2⟩ := cG_adv hT hm p1 (isg_k z2)
                rw [e44]
                have hs : sgn T j 44 [] = some (.inr (j + 1, [])) := by unfold sgn; rw [if_pos z2]; rfl
                -- what follows the comma
                have h3 : ∃ y, sq (rd T q nl n 3 (o + 1) (j + 1)) (fun j => sgn T j 41 [(op, 0)]) = some y ∧ ((∃ e, y = .inl e ∧ r = .inl e) ∨ ∃ k2 c2, y = .inr (k2, c2) ∧ r = .inr (k2, c ++ c2)) := by
                  rcases h2 with ⟨e, h2, h3⟩ | ⟨k2, c2, h2, h3⟩
                  · rw [hs] at h2
                    rcases sq_some h2 with ⟨e4, h4, e5⟩ | ⟨j4, c4, h4, h5⟩
                    · cases h4
                    · cases h4
                      rcases h5 with ⟨e6, h6, e7⟩ | ⟨k6, c6, h6, e7⟩
                      · cases e7; exact ⟨_, h6, Or.inl ⟨e, rfl, h3⟩⟩
                      · cases e7
                  · rw [hs] at h2
                    rcases sq_some h2 with ⟨e4, h4, e5⟩ | ⟨j4, c4, h4, h5⟩
                    · cases h4
                    · cases h4
                      rcases h5 with ⟨e6, h6, e7⟩ | ⟨k6, c6, h6, e7⟩
                      · cases e7
                      · cases e7; exact ⟨_, h6, Or.inr ⟨k2, c6, rfl, h3⟩⟩
                obtain ⟨y, h3, h4⟩ := h3
                have fin : ∀ s2, gP T m K P q nl o (out ++ c) y σ s2 → gP T m K P q nl o out r σ s2 := by
                  intro s2 hs2
                  rcases h4 with ⟨e, rfl, rfl⟩ | ⟨k2, c2, rfl, rfl⟩
                  · exact gP_bad hs2.1 hs2.2
                  · exact gP_out hs2
                rcases sq_some h3 with ⟨e, h5, rfl⟩ | ⟨j5, c5, h5, h6⟩
                · refine wq_mono (ih 3 (o + 1) (j + 1) _ h5 d 0 _ _ (by simp only [glv] at hd ⊢; omega) (by omega) g1 (Nat.zero_le _)) (fun s2 p2 => ?_)
                  have p3 : cZ K P q e s2 := p2.1
                  rw [wq_let, c_takeSignN p3.1, if_pos (cH_K p3.2), wq_let, wq_some, p3.2.1]
                  obtain ⟨g3, g4⟩ := cZ_add p3 (nI op) 0
                  exact fin _ (gP_bad (cZ_o g3 _).1 (fr_tr (fr_tr (fr_tr (fr_tr (fr_tr (fr_tr f d3) p.2) g2) p2.2) g4) (cZ_o g3 _).2))
                · have hfit5 : j + 1 + 1 ≤ j5 ∧ j + 1 + c5.length ≤ j5 := rd_fit T q nl n 3 (o + 1) (j + 1) _ h5
                  refine wq_mono (ih 3 (o + 1) (j + 1) _ h5 d 0 _ _ (by simp only [glv] at hd ⊢; omega) (by omega) g1 (Nat.zero_le _)) (fun s2 p2 => ?_)
                  have p3 : cG T m K P q nl (o + 1) j5 (out ++ c ++ c5) s2 := p2.1
                  obtain ⟨x1, x2, x3⟩ := c_takeSign (c := 41) hT hm p3.1 (by decide)
                  rw [wq_let]
                  have ff : fr (gD K) σ s2 := fr_tr (fr_tr (fr_tr (fr_tr f d3) p.2) g2) p2.2
                  by_cases z3 : isg T j5 41
                  · have e41 : f_X8_takeSign 41 s2 = f_X8_advance s2 := by
                      unfold f_X8_takeSign f_X8_takeSign_12 fhlet
                      (try dsimp only)
                      rw [if_pos (by rw [show (41 : Int32) = nI 41 from rfl, c_isSign hT hm p3.1 (by decide)]; exact z3)]
                    obtain ⟨g5, g6⟩ := cG_adv hT hm p3 (isg_k z3)
                    rw [e41, if_pos (cG_K g5).1, wq_let, wq_some, (cG_K g5).2]
                    obtain ⟨g7, g8⟩ := gA_done (op := op) (w := 0) hT hm g5 (by rw [List.length_append, List.length_append]; omega) (by omega) (by decide)
                    refine fin _ ?_
                    rcases h6 with ⟨e, h6, rfl⟩ | ⟨k6, c6, h6, rfl⟩
                    · rcases sgn_some h6 with ⟨_, e7⟩ | ⟨z, e7⟩
                      · cases e7
                      · exact absurd z3 z
                    · rcases sgn_some h6 with ⟨_, e7⟩ | ⟨z, e7⟩
                      · cases e7
                        exact gP_ok (by rw [← List.append_assoc]; exact g7) (fr_tr (fr_tr ff g6) g8)
                      · exact absurd z3 z
                  · obtain ⟨a2, b4⟩ := cG_bad p3 (x2 z3) x3
                    have a2 : cZ K P q (1, fm T j5) (f_X8_takeSign 41 s2) := a2
                    have b4 : fr (gD K) s2 (f_X8_takeSign 41 s2) := b4
                    rw [if_pos (cH_K a2.2), wq_let, wq_some, a2.2.1]
                    obtain ⟨g3, g4⟩ := cZ_add a2 (nI op) 0
                    refine fin _ ?_
                    rcases h6 with ⟨e, h6, rfl⟩ | ⟨k6, c6, h6, rfl⟩
                    · rcases sgn_some h6 with ⟨z, e7⟩ | ⟨_, e7⟩
                      · exact absurd z z3
                      · cases e7
                        exact gP_bad (cZ_o g3 _).1 (fr_tr (fr_tr (fr_tr ff b4) g4) (cZ_o g3 _).2)
                    · rcases sgn_some h6 with ⟨z, e7⟩ | ⟨_, e7⟩
                      · exact absurd z z3
                      · cases e7
              · obtain ⟨a2, b4⟩ := cG_bad p1 (b2 z2) b3
                have a2 : cZ K P q (1, fm T j) (f_X8_takeSign 44 s) := a2
                have b4 : fr (gD K) s (f_X8_takeSign 44 s) := b4
                have hs : sgn T j 44 [] = some (.inl (1, fm T j)) := by unfold sgn; rw [if_neg z2]; rfl
                rw [hs, sq_bad] at h2
                rcases h2 with ⟨e, h2, rfl⟩ | ⟨k2, c2, h2, _⟩
                · cases h2
                  exact zz _ _ a2 (fr_tr (fr_tr (fr_tr f d3) p.2) b4)
                · cases h2
        · rw [if_neg (by rw [t40]; exact z1), wq_let, wq_some, gbad_some hr]
          obtain ⟨a1, b1⟩ := c_failHere a.1
          obtain ⟨a2, b2⟩ := cG_bad a a1 b1
          exact gP_bad a2 (fr_tr f b2)
      exact wq_mono key (fun s p => by rw [wq_some]; exact p)
    by_cases z : isw T k 24
    · rw [if_pos (by rw [s24]; exact z)]
      exact main
    · rw [if_neg (by rw [s24]; exact z), if_pos (by rw [s25]; exact q3.resolve_left z)]
      exact main
  rw [if_neg (by rw [s24]; exact fun z => q3 (Or.inl z)), if_neg (by rw [s25]; exact fun z => q3 (Or.inr z))]
  cases hlk : lkx q T k with
  | some b =>
    rw [hlk] at hr
    dsimp only at hr
    obtain ⟨v1, v2⟩ := c_lkv hm h hlk
    have hk0 : kd T k ≠ 0 := by have := lkx_k hlk; omega
    rw [if_pos (by rw [c_lkb hm h, hlk]; exact fun z => by cases z), wq_bind]
    obtain ⟨d, rfl⟩ : ∃ d', d = d' + 1 := ⟨d - 1, by simp only [glv] at hd; omega⟩
    have key : wq (f_X5_lookup (fgR d) σ) (gP T m K P q nl o out r σ) := by
      unfold f_X5_lookup f_X5_lookup_36
      rw [v1, wq_let]
      obtain ⟨d1, d2, d3⟩ := cG_deep hT hm h ho hk0
      by_cases q6 : 6 ≤ o
      · rw [if_pos q6] at hr
        obtain ⟨e1, e2⟩ := d2 q6
        rw [gbad_some hr, e1, if_neg (by decide), wq_some]
        exact gP_bad e2 d3
      · rw [if_neg q6] at hr
        obtain ⟨e1, e2⟩ := d1 (by omega)
        rw [e1, if_pos rfl, wq_bind]
        rcases sq_some hr with ⟨e, h1, rfl⟩ | ⟨j, c, h1, h2⟩
        · refine wq_mono (ih 5 (o + 1) (k + 1) _ h1 d 0 _ out (by simp only [glv] at hd ⊢; omega) (by omega) e2 (Nat.zero_le _)) (fun s p => ?_)
          have p1 : cZ K P q e s := p.1
          obtain ⟨b1, b2⟩ := cZ_add p1 2 (nI b)
          rw [if_pos (cH_K p1.2), wq_let, wq_some, p1.2.1]
          exact gP_bad (cZ_o b1 _).1 (fr_tr (fr_tr (fr_tr d3 p.2) b2) (cZ_o b1 _).2)
        · have hfit : k + 1 + 1 ≤ j ∧ k + 1 + c.length ≤ j := rd_fit T q nl n 5 (o + 1) (k + 1) _ h1
          refine wq_mono (ih 5 (o + 1) (k + 1) _ h1 d 0 _ out (by simp only [glv] at hd ⊢; omega) (by omega) e2 (Nat.zero_le _)) (fun s p => ?_)
          have p1 : cG T m K P q nl (o + 1) j (out ++ c) s := p.1
          obtain ⟨b1, b2⟩ := gA_done hT hm p1 (by rw [List.length_append]; omega) (show 2 ≤ 14 by decide) (show b < 100000 by omega)
          rw [if_pos (cG_K p1).1, wq_let, wq_some, (cG_K p1).2]
          rcases h2 with ⟨e, h2, rfl⟩ | ⟨k2, c2, h2, rfl⟩
          · cases h2
          · cases h2
            exact gP_ok (by rw [← List.append_assoc]; exact b1) (fr_tr (fr_tr d3 p.2) b2)
    exact wq_mono key (fun s p => by rw [wq_some]; exact p)
  | none =>
    rw [hlk] at hr
    dsimp only at hr
    rw [if_neg (by rw [c_lkb hm h, hlk]; exact fun z => z rfl), wq_bind]
    refine wq_mono (c_leaf hT hm h) (fun s p => ?_)
    rw [wq_some]
    cases hlf : lfx q nl T k with
    | some i =>
      rw [hlf] at hr p
      rw [gok_some hr]
      exact p
    | none =>
      rw [hlf] at hr p
      rw [gbad_some hr]
      exact p
theorem gA_all (hT : tOK T) (hm : tend T m) : ∀ (n w o k : Nat), gA T m K P q nl n w o k := by
  intro n
  induction n with
  | zero => intro w o k r hr; cases hr
  | succ n ih =>
    intro w o k
    match w with
    | 0 => exact gA_test ih
    | 1 => exact gA_both ih
    | 2 => exact gA_claim hT hm ih
    | 3 => exact gA_sum ih
    | 4 => exact gA_product ih
    | 5 => exact gA_part hT hm ih
    | 6 => exact gA_testR hT hm ih
    | 7 => exact gA_bothR hT hm ih
    | 8 => exact gA_sumR hT hm ih
    | w + 9 =>
      intro r hr d i σ out hd ho h hi
      exact gA_productR hT hm ih r hr d i σ out hd ho h hi
end
