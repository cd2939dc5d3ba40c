/-! ITS OPENINGS AND ITS PARTS -/
theorem r_opened {T : tT} {q : Bool} {nl : List (List Nat)} {o k k' : Nat} {out : gC} {v : Nat} {wt : List Nat} {b : Nat} {σ s s2 : fhM} (h : rG T q nl o k out wt b σ) (hf : fr (fun t j => t = 77 ∨ (t = 0 ∧ (j = 101 ∨ j = 102))) σ s) (h102 : s.1 0 102 = nI (o + 1)) (hw : rW (v :: wt) s) (hp : mP T k' s2) (hf2 : fr mD s s2) (hk : k < k') (hk' : k' ≤ T.2) : rG T q nl (o + 1) k' out (v :: wt) b s2 := by
  obtain ⟨a1, a2, a3, a4, a5, a6, a7, a8, a9, a10, a11⟩ := h
  refine ⟨hp, hk', mW_m (mW_fr a3 (fun v i hv hi => ?_)) hf2, rS_fr (rS_fr a4 (hf.2 _ _ (by omega)) (fun i => hf.2 _ _ (by omega))) (hf2.2 _ _ (by unfold mD; omega)) (fun i => hf2.2 _ _ (by unfold mD; omega)), ⟨?_, rWc_fr hw.2 (fun i _ => hf2.2 _ _ (by unfold mD; omega))⟩, by rw [List.length_cons]; omega, ?_, ?_, by rw [List.length_cons]; omega, ?_, fun hq => ?_⟩
  · refine hf.2 _ _ (fun z => ?_)
    have : v = 77 := by omega
    subst this
    exact Nat.not_lt_zero _ hi
  · rw [hf2.2 _ _ (by unfold mD; omega)]; exact hw.1
  · rw [hf2.2 _ _ (by unfold mD; omega)]; exact h102
  · rw [hf2.2 _ _ (by unfold mD; omega), hf.2 _ _ (by omega)]; exact a8
  · rw [hf2.2 _ _ (by unfold mD; omega), hf.2 _ _ (by omega)]; exact a10
  · exact rN_fr (rN_fr (a11 hq) (hf.2 _ _ (by omega)) hf.1) (hf2.2 _ _ (by unfold mD; omega)) hf2.1
theorem r_ofr {σ s : fhM} (h : fr (fun t j => t = 77 ∨ (t = 0 ∧ (j = 101 ∨ j = 102))) σ s) : fr rD σ s := fr_mo h (fun t j z => by unfold rD; omega)
theorem r_omP {T : tT} {k : Nat} {σ s : fhM} (hp : mP T k σ) (h : fr (fun t j => t = 77 ∨ (t = 0 ∧ (j = 101 ∨ j = 102))) σ s) : mP T k s := mP_fr hp (fun i _ => h.2 _ _ (by omega)) (h.2 _ _ (by omega)) (h.2 _ _ (by omega)) (h.2 _ _ (by omega)) (h.2 _ _ (by omega)) (h.2 _ _ (by omega))
theorem r_omW {σ s : fhM} (hp : mW σ) (h : fr (fun t j => t = 77 ∨ (t = 0 ∧ (j = 101 ∨ j = 102))) σ s) : mW s := by
  refine mW_fr hp (fun v i hv hi => h.2 _ _ (fun z => ?_))
  have : v = 77 := by omega
  subst this
  exact Nat.not_lt_zero _ hi
theorem wxi_3 {T : tT} {k c : Nat} (h : isg T k c) : wxi T k = none := by
  cases e : wxi T k with
  | none => rfl
  | some i => have := wxi_kd e; have := h.1; omega
theorem rF_at {e : Nat × Nat} {σ s : fhM} (h : rF e s) (hf : fr rD σ s) (x : Int32) : rF e (fhI s 0 2 x) ∧ fr rD σ (fhI s 0 2 x) := by
  obtain ⟨⟨h1, h1b⟩, h2, h3, L, h4, h5⟩ := h
  refine ⟨⟨⟨?_, ?_⟩, h2, h3, L, ?_, h5⟩, fr_I hf (Or.inl ⟨rfl, by omega⟩)⟩
  · simp (disch := omega) only [fhI_e, fhI_o, fhI_s]; exact h1
  · simp (disch := omega) only [fhI_e, fhI_o, fhI_s]; exact h1b
  · simp (disch := omega) only [fhI_e, fhI_o, fhI_s]; exact h4
/-- ahead of a part, the token looked at -/
theorem k0_head {T : tT} (hT : tOK T) {q : Bool} {nl : List (List Nat)} {o k : Nat} {out : gC} {wt : List Nat} {b : Nat} {v : Int32} {σ : fhM} {Q : fhM → Prop} (h : rG T q nl o k out wt b σ)
    (go : ∀ s, rG T q nl o k out wt b s → mA T k s → fr mD σ s → wq (if mc T k = (40 : Int32) then Option.bind (f_X12_qOpens (20 : Int32) (s.1 0 2) s) fun q7 => f_X12_qPartTold_183 1 (fhI q7 0 2 ((q7.1 0 2) + (1 : Int32))) else Option.bind (f_X12_isHere 62 s) fun q3 => if q3.1 = true then f_X12_qPartTold_78 1 q3.2 else Option.bind (f_X12_isHere 63 q3.2) fun q4 => if q4.1 = true then f_X12_qPartTold_78 1 q4.2 else if nixI (lki q T k) = (-1 : Int32) then f_X12_qPartTold_183 (0 : Int32) q4.2 else Option.bind (f_X12_qOpens (((60 : Int32) + nixI (lki q T k)) - (9 : Int32)) (q4.2.1 0 2) q4.2) fun q5 => Option.bind (f_X12_qAsksWord (nixI (lki q T k)) q5) fun q6 => f_X12_qPartTold_183 1 q6)
      (fhK (fun y => wq (fhlp (fun x => f_X12_qPartTold_2 x.1 x.2) y) (fun q1 => wq (kB v q1) Q)) (fun q1 => wq (kB v q1) Q))) : wq (k0 v σ) Q := by
  refine k0_step ?_
  unfold f_X12_qPartTold_2
  rw [if_neg (by decide), if_pos (rG_bad h), wq_bind]
  refine wq_mono (m_look hT h.1) ?_
  rintro ⟨c, s⟩ ⟨hc, hA, hf⟩
  have hc : c = mc T k := hc
  have hs := rG_m h hA.1 (Nat.le_refl _) h.2.1 hf
  dsimp only
  rw [wq_bind, hc]
  refine wq_mono (r_wordOf (lo := 9) (hi := 12) hT hA.1 hs.2.2.1 hs.2.2.2.2.2.2.2.2.2.1 (by decide) (by decide)) ?_
  rintro ⟨d, s2⟩ ⟨hd, hA2, hf2⟩
  dsimp only at hd hA2 hf2 ⊢
  rw [lki_eq] at hd
  rw [hd]
  exact go s2 (rG_m hs hA2.1 (Nat.le_refl _) h.2.1 hf2) hA2 (fr_tr hf hf2)
theorem k0_paren {T : tT} (hT : tOK T) {q : Bool} {nl : List (List Nat)} {o k : Nat} {out : gC} {wt : List Nat} {b : Nat} {v : Int32} {σ : fhM} {Q : fhM → Prop} (h : rG T q nl o k out wt b σ) (ho : o ≤ 6) (hk : isg T k 40) (hQ : 6 ≤ o → rQ σ Q (4, fm T k))
    (go : o < 6 → ∀ s, rG T q nl (o + 1) (k + 1) out (20 :: wt) b s → fr rD σ s → wq (k0 v s) Q) : wq (k0 v σ) Q := by
  have hkT := kd_num (isg_k hk)
  refine k0_head hT h (fun s hs hA hf => ?_)
  rw [if_pos (show mc T k = (40 : Int32) from (m_sg (c := 40) hT rfl (by decide)).mpr hk), wq_bind, hA.2]
  obtain ⟨p6, p5⟩ := r_opens (v := 20) (p := fm T k) hT hs ho (by decide) hkT
  by_cases z : 6 ≤ o
  · obtain ⟨s2, e1, e2, e3⟩ := p6 z
    refine wq_of e1 ?_
    unfold f_X12_qPartTold_183
    rw [wq_some, fhK_l]
    have hF : rF (4, fm T k) s2 := rF_of hT hs e2 (Nat.le_of_ble_eq_true rfl) (Nat.le_of_ble_eq_true rfl) (e3.2 0 99 (by unfold mD; omega))
    obtain ⟨a1, a2⟩ := rF_at hF (fr_mo (fr_tr hf e3) (fun _ _ => mD_r)) (s2.1 0 2 + (1 : Int32))
    exact k0_q (hQ z) a1 a2
  · obtain ⟨s2, e1, e2, e3, e4⟩ := p5 (by omega)
    refine wq_of e1 ?_
    unfold f_X12_qPartTold_183
    rw [wq_some, fhK_l]
    have hp2 := r_omP hA.1 e2
    have e : s2.1 0 2 + (1 : Int32) = nI (to T k) := by rw [e2.2 0 2 (by omega), hA.2, nI_1, isg_to hk]
    rw [e]
    have hp3 := mP_nextS hT hp2 hk.1
    have f3 : fr mD s2 (fhI s2 0 2 (nI (to T k))) := fr_I fr_rf ⟨rfl, by omega⟩
    exact k0_of (go (by omega) _ (r_opened hs e2 e3 e4 hp3 f3 (by omega) (by omega)) (fr_tr (fr_tr (fr_mo hf (fun _ _ => mD_r)) (r_ofr e2)) (fr_mo f3 (fun _ _ => mD_r))))

theorem m_isHereN {v : Nat} {σ : fhM} (h : ¬ σ.1 0 5 = 0) : f_X12_isHere v σ = some (false, σ) := by
  unfold f_X12_isHere
  rw [if_neg h]
theorem r_opensN {a b : Int32} {σ : fhM} (h : ¬ σ.1 0 5 = 0) : f_X12_qOpens a b σ = some σ := by
  unfold f_X12_qOpens
  rw [if_neg h]
theorem r_asksWordN {i : Nat} (hi : i < 12) {σ : fhM} (h : ¬ σ.1 0 5 = 0) : f_X12_qAsksWord (nI i) σ = some σ := by
  have hcs : i = 0 ∨ i = 1 ∨ i = 2 ∨ i = 3 ∨ i = 4 ∨ i = 5 ∨ i = 6 ∨ i = 7 ∨ i = 8 ∨ i = 9 ∨ i = 10 ∨ i = 11 := by omega
  unfold f_X12_qAsksWord
  simp only [m_asksN h]
  rcases hcs with rfl | rfl | rfl | rfl | rfl | rfl | rfl | rfl | rfl | rfl | rfl | rfl <;> rfl
theorem lkx_no {q : Bool} {T : tT} {k j : Nat} (h : isw T k j) (hj : j ≠ 12 ∧ j ≠ 18 ∧ j ≠ 19) : lkx q T k = none := by
  unfold lkx
  rw [if_pos h.1, h.2]
  cases q with
  | true =>
    show (if j = 18 then some 20 else if j = 19 then some 25 else none) = none
    rw [if_neg hj.2.1, if_neg hj.2.2]
  | false =>
    show (if j = 12 then some 15 else none) = none
    rw [if_neg hj.1]
/-- min, max: the word, the bracket -/
theorem k0_min {T : tT} (hT : tOK T) {q : Bool} {nl : List (List Nat)} {o k : Nat} {out : gC} {wt : List Nat} {b : Nat} {v : Int32} {σ : fhM} {Q : fhM → Prop} (h : rG T q nl o k out wt b σ) (ho : o ≤ 6) (hk : isw T k 24 ∨ isw T k 25) (hQ : ¬ isg T (k + 1) 40 → rQ σ Q (1, fm T (k + 1))) (hQ4 : isg T (k + 1) 40 → 6 ≤ o → rQ σ Q (4, fm T (k + 1)))
    (go : isg T (k + 1) 40 → o < 6 → ∀ u s, (isw T k 24 → u = 21) → (¬ isw T k 24 → u = 22) → rG T q nl (o + 1) (k + 2) out (u :: wt) b s → fr rD σ s → wq (k0 v s) Q) : wq (k0 v σ) Q := by
  have hk1 : kd T k = 1 := by rcases hk with z | z <;> exact z.1
  have hkT := kd_num (T := T) (k := k) (by omega)
  refine k0_head hT h (fun s hs hA hf => ?_)
  rw [if_neg (show ¬ mc T k = (40 : Int32) from fun z => by have := ((m_sg (c := 40) hT rfl (by decide)).mp z).1; omega)]
  -- behind the word
  have h101 : ∀ (u : Nat) (x : Bool) (y : fhM), (if fhb x = 0 then (22 : Int32) else 21) = nI u → u < 100 → (isw T k 24 → u = 21) → (¬ isw T k 24 → u = 22) → mP T (k + 1) y → fr mD σ y → wq (f_X12_qPartTold_101 1 (fhb x) y) (fhK (fun y => wq (fhlp (fun x => f_X12_qPartTold_2 x.1 x.2) y) (fun q1 => wq (kB v q1) Q)) (fun q1 => wq (kB v q1) Q)) := by
    intro u x y hu hu2 hu3 hu4 hy hfy
    have hG := rG_m h hy (Nat.le_succ k) (by omega) hfy
    unfold f_X12_qPartTold_101
    rw [wq_bind]
    refine wq_mono (m_look hT hy) ?_
    rintro ⟨c, y2⟩ ⟨hc, hA2, hf2⟩
    have hc : c = mc T (k + 1) := hc
    have hG2 := rG_m hG hA2.1 (Nat.le_refl _) (by omega) hf2
    dsimp only at hA2 hf2 ⊢
    rw [hc]
    unfold f_X12_qPartTold_118 f_X12_qPartTold_139 f_X12_qPartTold_144 f_X12_qPartTold_183
    by_cases z : isg T (k + 1) 40
    · have hkT2 := kd_num (isg_k z)
      have hfl := fm_le T (k + 1)
      have hT2 := hT.1
      rw [if_pos (show mc T (k + 1) = (40 : Int32) from (m_sg (c := 40) hT rfl (by decide)).mpr z), hA2.2, if_neg (ph_m1n (by omega)), hu, wq_bind]
      obtain ⟨p6, p5⟩ := r_opens (v := u) (p := fm T (k + 1)) hT hG2 ho hu2 hkT2
      by_cases z6 : 6 ≤ o
      · obtain ⟨s2, e1, e2, e3⟩ := p6 z6
        have hF : rF (4, fm T (k + 1)) s2 := rF_of hT hG2 e2 (Nat.le_of_ble_eq_true rfl) (Nat.le_of_ble_eq_true rfl) (e3.2 0 99 (by unfold mD; omega))
        refine wq_of e1 ?_
        rw [wq_bind, m_asksSignN (rF_n hF), wq_some, wq_some, fhK_l]
        exact k0_q (hQ4 z z6) hF (fr_mo (fr_tr (fr_tr hfy hf2) e3) (fun _ _ => mD_r))
      · obtain ⟨s2, e1, e2, e3, e4⟩ := p5 (by omega)
        refine wq_of e1 ?_
        rw [wq_bind]
        refine wq_mono (m_asksSign (c := 40) hT rfl (by decide) (r_omP hA2.1 e2)) (fun s3 p3 => ?_)
        rw [wq_some, fhK_l]
        exact k0_of (go z (by omega) u s3 hu3 hu4 (r_opened hG2 e2 e3 e4 (p3.1 z) p3.2.2 (by omega) (by omega)) (fr_tr (fr_tr (fr_mo (fr_tr hfy hf2) (fun _ _ => mD_r)) (r_ofr e2)) (fr_mo p3.2.2 (fun _ _ => mD_r))))
    · rw [if_neg (show ¬ mc T (k + 1) = (40 : Int32) from fun y => z ((m_sg (c := 40) hT rfl (by decide)).mp y)), if_pos rfl, wq_bind]
      refine wq_mono (m_asksSign (c := 40) hT rfl (by decide) hA2.1) (fun s3 p3 => ?_)
      rw [wq_some, fhK_l]
      have hF : rF (1, fm T (k + 1)) s3 := rF_of hT hG2 (p3.2.1 z) (Nat.le_of_ble_eq_true rfl) (Nat.le_of_ble_eq_true rfl) (p3.2.2.2 0 99 (by unfold mD; omega))
      exact k0_q (hQ z) hF (fr_mo (fr_tr (fr_tr hfy hf2) p3.2.2) (fun _ _ => mD_r))
  have h78 : ∀ y, mP T k y → mW y → fr mD σ y → wq (f_X12_qPartTold_78 1 y) (fhK (fun y => wq (fhlp (fun x => f_X12_qPartTold_2 x.1 x.2) y) (fun q1 => wq (kB v q1) Q)) (fun q1 => wq (kB v q1) Q)) := by
    intro y hy hw hfy
    unfold f_X12_qPartTold_78
    rw [wq_bind]
    refine wq_mono (r_ta62 hT hy hw) ?_
    rintro ⟨c, y2⟩ ⟨hc, hp, hn, hf2⟩
    dsimp only at hc hp hn hf2 ⊢
    by_cases z : isw T k 24
    · rw [if_pos (hc.mpr z), hc.mpr z]
      exact h101 21 true y2 (by rw [if_neg (by decide)]; rfl) (by decide) (fun _ => rfl) (fun x => absurd z x) (hp z) (fr_tr hfy hf2)
    · have hcf : c = false := by cases c with
        | false => rfl
        | true => exact absurd (hc.mp rfl) z
      rw [if_neg (fun x => z (hc.mp x)), wq_bind, hcf]
      refine wq_mono (r_as63 hT (hn z).1 (mW_m hw hf2)) (fun y3 p3 => ?_)
      exact h101 22 false y3 (by rw [if_pos (by rfl)]; rfl) (by decide) (fun x => absurd x z) (fun _ => rfl) (p3.1 (hk.resolve_left z)) (fr_tr (fr_tr hfy hf2) p3.2.2)
  rw [wq_bind]
  refine wq_mono (r_is62 hT hA.1 hs.2.2.1) ?_
  rintro ⟨c, y⟩ ⟨hc, hB, hg⟩
  dsimp only at hc hB hg ⊢
  by_cases z : isw T k 24
  · rw [if_pos (hc.mpr z)]
    exact h78 y hB.1 (mW_m hs.2.2.1 hg) (fr_tr hf hg)
  rw [if_neg (fun x => z (hc.mp x)), wq_bind]
  refine wq_mono (r_is63 hT hB.1 (mW_m hs.2.2.1 hg)) ?_
  rintro ⟨c2, y2⟩ ⟨hc2, hB2, hg2⟩
  dsimp only at hc2 hB2 hg2 ⊢
  rw [if_pos (hc2.mpr (hk.resolve_left z))]
  exact h78 y2 hB2.1 (mW_m (mW_m hs.2.2.1 hg) hg2) (fr_tr (fr_tr hf hg) hg2)
/-- a word with a part behind it -/
theorem k0_lk {T : tT} (hT : tOK T) {q : Bool} {nl : List (List Nat)} {o k i : Nat} {out : gC} {wt : List Nat} {b : Nat} {v : Int32} {σ : fhM} {Q : fhM → Prop} (h : rG T q nl o k out wt b σ) (ho : o ≤ 6) (hk : lki q T k = some i) (hi : wxi T k = some i) (hi9 : 9 ≤ i) (hnm : ¬ isw T k 24 ∧ ¬ isw T k 25) (hQ : 6 ≤ o → rQ σ Q (4, fm T k))
    (go : o < 6 → ∀ s, rG T q nl (o + 1) (k + 1) out ((60 + (i - 9)) :: wt) b s → fr rD σ s → wq (k0 v s) Q) : wq (k0 v σ) Q := by
  have hk1 := wxi_kd hi
  obtain ⟨h12, -⟩ := wxi_some hi
  have hkT := kd_num (T := T) (k := k) (by omega)
  refine k0_head hT h (fun s hs hA hf => ?_)
  rw [if_neg (show ¬ mc T k = (40 : Int32) from fun z => by have := ((m_sg (c := 40) hT rfl (by decide)).mp z).1; omega), wq_bind]
  refine wq_mono (r_is62 hT hA.1 hs.2.2.1) ?_
  rintro ⟨c, y⟩ ⟨hc, hB, hg⟩
  dsimp only at hc hB hg ⊢
  rw [if_neg (fun x => hnm.1 (hc.mp x)), wq_bind]
  refine wq_mono (r_is63 hT hB.1 (mW_m hs.2.2.1 hg)) ?_
  rintro ⟨c2, y2⟩ ⟨hc2, hB2, hg2⟩
  dsimp only at hc2 hB2 hg2 ⊢
  have hs2 := rG_m (rG_m hs hB.1 (Nat.le_refl _) h.2.1 hg) hB2.1 (Nat.le_refl _) h.2.1 hg2
  have ff : fr mD σ y2 := fr_tr (fr_tr hf hg) hg2
  rw [if_neg (fun x => hnm.2 (hc2.mp x)), hk, show nixI (some i) = nI i from rfl, if_neg (ph_m1n (by omega)), wq_bind, hB2.2]
  have e60 : ((60 : Int32) + nI i) - (9 : Int32) = nI (60 + (i - 9)) := by
    rw [show (60 : Int32) = nI 60 from rfl, nI_add, show (9 : Int32) = nI 9 from rfl, pk_sub (by omega), show 60 + i - 9 = 60 + (i - 9) by omega]
  rw [e60]
  obtain ⟨p6, p5⟩ := r_opens (v := 60 + (i - 9)) (p := fm T k) hT hs2 ho (by omega) hkT
  by_cases z : 6 ≤ o
  · obtain ⟨s2, e1, e2, e3⟩ := p6 z
    have hF : rF (4, fm T k) s2 := rF_of hT hs2 e2 (Nat.le_of_ble_eq_true rfl) (Nat.le_of_ble_eq_true rfl) (e3.2 0 99 (by unfold mD; omega))
    refine wq_of e1 ?_
    unfold f_X12_qPartTold_183
    rw [wq_bind, r_asksWordN h12 (rF_n hF), wq_some, wq_some, fhK_l]
    exact k0_q (hQ z) hF (fr_mo (fr_tr ff e3) (fun _ _ => mD_r))
  · obtain ⟨s2, e1, e2, e3, e4⟩ := p5 (by omega)
    refine wq_of e1 ?_
    unfold f_X12_qPartTold_183
    rw [wq_bind]
    refine wq_mono (r_asksWord hT (r_omP hB2.1 e2) (r_omW hs2.2.2.1 e2) hi) (fun s3 p3 => ?_)
    rw [wq_some, fhK_l]
    exact k0_of (go (by omega) s3 (r_opened hs2 e2 e3 e4 p3.1 p3.2 (by omega) (by omega)) (fr_tr (fr_tr (fr_mo ff (fun _ _ => mD_r)) (r_ofr e2)) (fr_mo p3.2 (fun _ _ => mD_r))))
