/-! NAMES HERE; A PART ALONE -/
def whoi (nl : List (List Nat)) (T : tT) (k : Nat) : Option Nat := if kd T k = 1 then nix nl 0 (lt T k) else none
theorem lN_eqI {a b : Nat} (ha : a < 2 ^ 31) (hb : b < 2 ^ 31) : (lg_cmp (lN a) (lN b) = 0) = (a = b) := propext (Iff.trans (lg_cmp_eq _ _) (lN_eq ha hb))
theorem r_guestHere {T : tT} (hT : tOK T) {nl : List (List Nat)} {k : Nat} {σ : fhM} (h : mP T k σ) (hn : rN nl σ) : wq (f_X12_guestHere σ) (fun r => r.1 = nixI (whoi nl T k) ∧ (whoi nl T k ≠ none → mP T (k + 1) r.2) ∧ (whoi nl T k = none → mA T k r.2) ∧ fr mD σ r.2) := by
  have hT2 := hT.1
  unfold f_X12_guestHere
  rw [if_pos h.2.2.1, wq_bind]
  refine wq_mono (m_look hT h) ?_
  rintro ⟨c, σ1⟩ ⟨hc, hA, hf⟩
  have hc : c = mc T k := hc
  have hA : mA T k σ1 := hA
  have hf : fr mD σ σ1 := hf
  have hn1 : rN nl σ1 := rN_fr hn (hf.2 _ _ (by unfold mD; omega)) hf.1
  dsimp only
  rw [hc]
  unfold mc
  have hno : whoi nl T k = none → wq (some ((-1 : Int32), σ1)) (fun r => r.1 = nixI (whoi nl T k) ∧ (whoi nl T k ≠ none → mP T (k + 1) r.2) ∧ (whoi nl T k = none → mA T k r.2) ∧ fr mD σ r.2) := by
    intro q
    rw [wq_some, q]
    exact ⟨rfl, fun z => absurd rfl z, fun _ => hA, hf⟩
  by_cases h0 : kd T k = 0
  · rw [if_pos h0, m_isLetterN, if_neg (by decide)]
    exact hno (by unfold whoi; rw [if_neg (by omega)])
  rw [if_neg h0, m_isLetter (hT.2 _)]
  by_cases hs : tS (T.1 (fm T k)) = 1
  · rw [decide_eq_true hs, if_pos rfl, hA.2]
    by_cases hnn : nI (fm T k) = σ1.1 0 4
    · rw [if_pos hnn]
      refine hno ?_
      unfold whoi
      rw [if_neg]
      intro q
      have hnr := kd_near (T := T) (k := k) (Or.inl q)
      have hfl := fm_le T k
      have hge := fm_ge T k
      have hle := ts_le T k
      cases he : (ts T k).2 with
      | true =>
        have e1 := hA.1.2.2.2.2.1 he
        rw [e1, nI_eq (by omega) (by omega)] at hnn
        exact hnr ⟨he, hnn⟩
      | false => exact hA.1.2.2.2.2.2.1 he (fm T k) hge (by omega) hnn.symm
    · rw [if_neg hnn]
      have hk1 : kd T k = 1 := by
        have e := (kd_is h0).1
        by_cases q : tS (T.1 (fm T k)) ≠ 3 ∧ (ts T k).2 = true ∧ fm T k = (ts T k).1
        · exact absurd (by rw [hA.1.2.2.2.2.1 q.2.1, q.2.2]) hnn
        · rw [if_neg q] at e
          omega
      have hfl := kd_pos h0
      have htl := to_le T k
      have hgt := to_gt h0
      have hlet : ∀ j, fm T k ≤ j → j < to T k → tS (T.1 j) = 1 := fun j h1 h2 => (lt_sort h0 (by omega) h1 h2).trans hs
      -- the search, from what was read
      have search : ∀ i, fm T k ≤ i → i ≤ to T k → i ≤ fm T k + 7 → (i = to T k ∨ i = fm T k + 7) → wq (f_X12_guestHere_94 (nI i) (lN (e27 (bs T (fm T k) (i - fm T k)))) σ1) (fun r => r.1 = nixI (whoi nl T k) ∧ (whoi nl T k ≠ none → mP T (k + 1) r.2) ∧ (whoi nl T k = none → mA T k r.2) ∧ fr mD σ r.2) := by
        intro i hi1 hi2 hi3 hi4
        have hbl : ∀ c ∈ bs T (fm T k) (i - fm T k), tS c = 1 := bs_let (fun j hj => hlet _ (by omega) (by omega))
        unfold f_X12_guestHere_94
        by_cases h7 : 7 ≤ i - fm T k
        · -- too long for a name
          have hw : whoi nl T k = none := by
            unfold whoi
            rw [if_pos hk1]
            refine nix_no nl 0 (fun j hj z => ?_)
            have := (hn1.2.2 j _ z).2.1
            rw [lt_len] at this
            omega
          refine wq_step ?_
          unfold f_X12_guestHere_97
          rw [hn1.1, hA.2, pk_sub (by omega)]
          split
          · rw [wq_some, fhK_r, hw]
            exact ⟨rfl, fun z => absurd rfl z, fun _ => hA, hf⟩
          · rw [if_pos (show (7 : Int32) ≤ nI (i - fm T k) from nI_le (a := 7) h7 (by omega)), wq_some, fhK_r, hw]
            exact ⟨rfl, fun z => absurd rfl z, fun _ => hA, hf⟩
        · have hit : i = to T k := by omega
          subst hit
          have hb6 : (bs T (fm T k) (to T k - fm T k)).length ≤ 6 := by rw [bs_len]; omega
          have hlt := e27_lt hbl hb6
          refine wq_for (R := fun g x => x = nI g ∧ ∀ j, j < g → nl[j]? ≠ some (lt T k)) 0 nl.length (Nat.zero_le _) ?_ ?_ ⟨rfl, fun j hj => by omega⟩
          · rintro g x - hg ⟨rfl, hj⟩
            unfold f_X12_guestHere_97
            have hgl : nl[g]? = some nl[g] := List.getElem?_eq_getElem hg
            obtain ⟨a1, a2, a3, a4⟩ := hn1.2.2 g _ hgl
            have hlg := e27_lt a1 a2
            have hn5 := hn1.2.1
            rw [hn1.1, if_neg (nI_ge hg (by omega)), hA.2, pk_sub (by omega), if_neg (show ¬ (7 : Int32) ≤ nI (to T k - fm T k) from nI_ge (b := 7) (by omega) (by decide)), if_pos (ph_in1 (by omega) (by omega)), ph_ix (by omega), a4]
            by_cases z : nl[g] = lt T k
            · rw [if_pos (by rw [lN_eqI hlg hlt, z, lt_bs]), wq_some, fhK_r]
              have hw : whoi nl T k = some g := by unfold whoi; rw [if_pos hk1, nix_at nl 0 g hj (by rw [hgl, z]), Nat.zero_add]
              rw [hw]
              refine ⟨rfl, fun _ => mP_next hT hA.1 (Or.inl hk1), fun y => (by cases y), fr_I (fr_I hf ⟨rfl, by omega⟩) ⟨rfl, by omega⟩⟩
            · rw [if_neg (fun y => z (by rw [lN_eqI hlg hlt] at y; rw [lt_bs]; exact e27_inj a1 hbl y)), wq_some, fhK_l, nI_1]
              refine ⟨rfl, fun j hj2 => ?_⟩
              rcases Nat.lt_succ_iff_lt_or_eq.mp hj2 with y | y
              · exact hj j y
              · rw [y, hgl]
                intro x
                exact z (Option.some.inj x)
          · rintro x ⟨rfl, hj⟩
            unfold f_X12_guestHere_97
            have hw : whoi nl T k = none := by unfold whoi; rw [if_pos hk1]; exact nix_no nl 0 hj
            rw [hn1.1, if_pos (Int32.le_refl _), wq_some, fhK_r, hw]
            exact ⟨rfl, fun z => absurd rfl z, fun _ => hA, hf⟩
      refine wq_for (R := fun i x => x.1 = nI i ∧ x.2 = lN (e27 (bs T (fm T k) (i - fm T k))) ∧ i ≤ fm T k + 7) (fm T k) (to T k) (by omega) ?_ ?_ ⟨rfl, by rw [Nat.sub_self]; rfl, by omega⟩
      · rintro i ⟨x1, x2⟩ h1 h2 ⟨e1, e2, e3⟩
        dsimp only at e1 e2 e3 ⊢
        rw [e1, e2]
        unfold f_X12_guestHere_37
        rw [hA.1.2.1, if_neg (nI_ge (by omega) (by omega)), if_pos (ph_in1 (by omega) (by omega)), ph_ix (by omega), mP_b hA.1 (by omega), m_isLetter (hT.2 _), hlet i h1 h2, decide_eq_true rfl, if_pos rfl, hA.2, pk_sub h1]
        by_cases h7 : 7 ≤ i - fm T k
        · rw [if_pos (show (7 : Int32) ≤ nI (i - fm T k) from nI_le (a := 7) h7 (by omega)), wq_map]
          simp only [fhK_r]
          exact search i h1 (by omega) e3 (Or.inr (by omega))
        · rw [if_neg (show ¬ (7 : Int32) ≤ nI (i - fm T k) from nI_ge (b := 7) (by omega) (by decide)), if_pos (ph_in1 (by omega) (by omega)), wq_let, wq_some, fhK_l, l27 (hlet i h1 h2) (hT.2 i), nI_1]
          refine ⟨rfl, ?_, by omega⟩
          rw [show i + 1 - fm T k = (i - fm T k) + 1 by omega, bs_s, e27_s, show fm T k + (i - fm T k) = i by omega]
      · rintro ⟨x1, x2⟩ ⟨e1, e2, e3⟩
        dsimp only at e1 e2 e3 ⊢
        rw [e1, e2]
        have fin : wq (Option.map Sum.inr (f_X12_guestHere_94 (nI (to T k)) (lN (e27 (bs T (fm T k) (to T k - fm T k)))) σ1)) (fhK (fun _ : Int32 × Int64 => False) (fun r => r.1 = nixI (whoi nl T k) ∧ (whoi nl T k ≠ none → mP T (k + 1) r.2) ∧ (whoi nl T k = none → mA T k r.2) ∧ fr mD σ r.2)) := by
          rw [wq_map]
          simp only [fhK_r]
          exact search _ (by omega) (Nat.le_refl _) e3 (Or.inl rfl)
        unfold f_X12_guestHere_37
        rw [hA.1.2.1]
        by_cases he : T.2 ≤ to T k
        · rw [if_pos (nI_le he (by omega))]
          exact fin
        · have hse := to_sort h0 (by omega) (show to T k < T.2 by omega)
          rw [if_neg (nI_ge (by omega) (by omega)), if_pos (ph_in1 (by omega) (by omega)), ph_ix (by omega), mP_b hA.1 (by omega), m_isLetter (hT.2 _), decide_eq_false (by omega), if_neg (by decide)]
          exact fin
  · rw [decide_eq_false hs, if_neg (by decide)]
    refine hno ?_
    unfold whoi
    rw [if_neg]
    intro q
    have := kd_13 (T := T) (k := k) (Or.inl q)
    omega
/-- the leaf, by part or guest -/
theorem lfx_eq {q : Bool} {nl : List (List Nat)} {T : tT} {k : Nat} : lfx q nl T k = match pti q T k with
    | some _ => some (ow (lt T k) - 3)
    | none => if q = true then none else whoi nl T k := by
  unfold lfx pti whoi
  by_cases hk : kd T k = 1
  · rw [if_pos hk, if_pos hk, if_pos hk]
    cases q with
    | true =>
      simp only [cond_true]
      by_cases a : 13 ≤ ow (lt T k) ∧ ow (lt T k) ≤ 17
      · rw [if_pos a, if_pos a]
      · rw [if_neg a, if_neg a]
        rfl
    | false =>
      simp only [cond_false]
      by_cases a : 8 ≤ ow (lt T k) ∧ ow (lt T k) ≤ 11
      · rw [if_pos a, if_pos a]
      · rw [if_neg a, if_neg a]
        rfl
  · rw [if_neg hk, if_neg hk, if_neg hk]
    cases q <;> rfl
theorem pti_enc {q : Bool} {T : tT} {k p : Nat} (h : pti q T k = some p) : rEnc (1, ow (lt T k) - 3) = 40 + p ∧ p < 9 ∧ kd T k = 1 := by
  unfold pti at h
  by_cases hk : kd T k = 1
  · rw [if_pos hk] at h
    simp only [rEnc]
    cases q with
    | true =>
      simp only [cond_true] at h
      split at h
      · cases h
        rw [if_neg (by omega), if_neg (by omega)]
        exact ⟨by omega, by omega, hk⟩
      · cases h
    | false =>
      simp only [cond_false] at h
      split at h
      · cases h
        rw [if_neg (by omega), if_pos (by omega)]
        exact ⟨by omega, by omega, hk⟩
      · cases h
  · rw [if_neg hk] at h; cases h
theorem pti_wxi {q : Bool} {T : tT} {k p : Nat} (h : pti q T k = some p) : wxi T k = some p := by
  rw [← pti_eq] at h
  exact (Option.filter_eq_some_iff.mp h).1
/-- a code, then what ends with the part -/
theorem r_270 {T : tT} (hT : tOK T) {q : Bool} {nl : List (List Nat)} {o k : Nat} {out : gC} {wt : List Nat} {b : Nat} {v : Int32} {σ0 σ : fhM} {Q : fhM → Prop} (h : rG T q nl o k out wt b σ) (hf : fr rD σ0 σ) (c : Nat × Nat) (hl : out.length + 1 + wt.length ≤ k) (go : ∀ s, rG T q nl o k (out ++ [c]) wt b s → fr rD σ0 s → wq (kA v s) Q) : wq (f_X12_qPartTold_270 (nI (rEnc c)) σ) (fun q1 => wq (kB v q1) Q) := by
  unfold f_X12_qPartTold_270
  rw [wq_bind]
  refine wq_mono (r_code hT h c hl) (fun s p => ?_)
  have hg := go s p.1 (fr_tr hf p.2)
  unfold kA at hg
  rw [wq_bind] at hg
  rw [wq_bind]
  exact wq_mono hg (fun s2 p2 => by rw [wq_some]; exact p2)
theorem k0_atom {T : tT} (hT : tOK T) {q : Bool} {nl : List (List Nat)} {o k : Nat} {out : gC} {wt : List Nat} {b : Nat} {v : Int32} {σ : fhM} {Q : fhM → Prop} (h : rG T q nl o k out wt b σ) (h40 : ¬ isg T k 40) (hm : ¬ isw T k 24 ∧ ¬ isw T k 25) (hlk : lkx q T k = none)
    (hQ : ∀ e, (kd T k = 2 ∧ 4 < to T k - fm T k ∧ e = (1, fm T k + 4)) ∨ (kd T k ≠ 2 ∧ lfx q nl T k = none ∧ e = (1, fm T k)) → rQ σ Q e)
    (go : ∀ c, (kd T k = 2 ∧ to T k - fm T k ≤ 4 ∧ c = (0, nv T k)) ∨ (kd T k ≠ 2 ∧ ∃ i, lfx q nl T k = some i ∧ c = (1, i)) → ∀ s, rG T q nl o (k + 1) (out ++ [c]) wt b s → fr rD σ s → wq (kA v s) Q) : wq (k0 v σ) Q := by
  have hT2 := hT.1
  have hkT := h.2.1
  refine k0_head hT h (fun s hs hA hf => ?_)
  have hlki : lki q T k = none := by unfold lki; rw [hlk]
  rw [if_neg (show ¬ mc T k = (40 : Int32) from fun z => h40 ((m_sg (c := 40) hT rfl (by decide)).mp z)), wq_bind]
  refine wq_mono (r_is62 hT hA.1 hs.2.2.1) ?_
  rintro ⟨c, y⟩ ⟨hc, hB, hg⟩
  dsimp only at hc hB hg ⊢
  rw [if_neg (fun x => hm.1 (hc.mp x)), wq_bind]
  refine wq_mono (r_is63 hT hB.1 (mW_m hs.2.2.1 hg)) ?_
  rintro ⟨c2, y2⟩ ⟨hc2, hB2, hg2⟩
  dsimp only at hc2 hB2 hg2 ⊢
  have hs2 := rG_m (rG_m hs hB.1 (Nat.le_refl _) h.2.1 hg) hB2.1 (Nat.le_refl _) h.2.1 hg2
  have ff : fr mD σ y2 := fr_tr (fr_tr hf hg) hg2
  clear hs hA hf hB hg hc
  rw [if_neg (fun x => hm.2 (hc2.mp x)), hlki, show nixI none = (-1 : Int32) from rfl, if_pos rfl]
  unfold f_X12_qPartTold_183
  rw [wq_some, fhK_l]
  refine wq_step ?_
  dsimp only
  unfold f_X12_qPartTold_2
  rw [if_pos rfl, wq_map]
  simp only [fhK_r]
  unfold f_X12_qPartTold_186
  rw [if_pos (rG_bad hs2), wq_bind]
  refine wq_mono (r_wordOf (lo := 0) (hi := 9) (q := q) hT hB2.1 hs2.2.2.1 hs2.2.2.2.2.2.2.2.2.2.1 (by decide) (by decide)) ?_
  rintro ⟨d, y3⟩ ⟨hd, hA3, hf3⟩
  dsimp only at hd hA3 hf3 ⊢
  rw [pti_eq] at hd
  have hs3 := rG_m hs2 hA3.1 (Nat.le_refl _) h.2.1 hf3
  have ff3 : fr mD σ y3 := fr_tr ff hf3
  have hl := h.2.2.2.2.2.1
  -- a number, or a fault
  have numb : lfx q nl T k = none → ∀ y4, rG T q nl o k out wt b y4 → fr mD σ y4 → wq (Option.bind (f_X12_number (0 : Int32) (9999 : Int32) y4) fun q14 => f_X12_qPartTold_270 ((1000 : Int32) + q14.1) q14.2) (fun q1 => wq (kB v q1) Q) := by
    intro hlf y4 hy4 hf4
    rw [wq_bind]
    refine wq_mono (m_number (lo := 0) (hi := 9999) hT (by decide) (by decide) hy4.1) ?_
    rintro ⟨n1, y5⟩ ⟨hn0, hn1, hf5⟩
    dsimp only at hn0 hn1 hf5 ⊢
    have bad : ∀ e, nF T k 0 9999 = e → e.1 = 1 → rQ σ Q e → wq (f_X12_qPartTold_270 ((1000 : Int32) + n1) y5) (fun q1 => wq (kB v q1) Q) := by
      intro e he h1 hq
      have hm5 := hn1 (by rw [he, h1]; decide)
      rw [he] at hm5
      have hF : rF e y5 := rF_of hT hy4 hm5 (by omega) (by omega) (hf5.2 0 99 (by unfold mD; omega))
      unfold f_X12_qPartTold_270
      rw [wq_bind]
      have hlo := hy4.2.2.2.2.2.1
      have hL : y5.1 0 99 = nI out.length := by rw [hf5.2 0 99 (by unfold mD; omega)]; exact hy4.2.2.2.1.1
      refine wq_mono (rF_code hF hL (by omega) _) (fun s p => ?_)
      rw [wq_bind]
      unfold f_X12_qEndsPart
      have hb : ¬ s.1 0 5 = 0 := by rw [p.2.2.1]; exact rF_n hF
      refine wq_step ?_
      unfold f_X12_qEndsPart_0
      rw [if_neg hb, wq_some, fhK_r, wq_some]
      have hF2 : rF e s := ⟨p.1, by omega, by omega, out.length + 1, p.2.2.2, by omega⟩
      exact kB_q hq hF2 (fr_tr (fr_mo (fr_tr hf4 hf5) (fun _ _ => mD_r)) p.2.1)
    by_cases hk2 : kd T k = 2
    · by_cases h4 : 4 < to T k - fm T k
      · exact bad (1, fm T k + 4) (by unfold nF; rw [if_neg (by omega), if_pos h4]) rfl (hQ _ (Or.inl ⟨hk2, h4, rfl⟩))
      · have hb : nv T k < 10 ^ 4 := by
          have h0 : kd T k ≠ 0 := by omega
          have e := kd_13 (T := T) (k := k) (by omega)
          have := nmv_lt (T := T) (f := fm T k) (to T k - fm T k) (fun j hj => by rw [lt_sort h0 (by omega) (by omega) (by omega)]; omega)
          have hp : (10 : Nat) ^ (to T k - fm T k) ≤ 10 ^ 4 := Nat.pow_le_pow_right (by decide) (by omega)
          unfold nv
          omega
        have hnF : nF T k 0 9999 = (0, 0) := by unfold nF; rw [if_neg (by omega), if_neg h4, if_neg (by omega)]
        obtain ⟨g1, g2⟩ := hn0 (by rw [hnF])
        have hkn := kd_num (T := T) (k := k) (by omega)
        have e : (1000 : Int32) + n1 = nI (rEnc (0, nv T k)) := by rw [g2, show (1000 : Int32) = nI 1000 from rfl, nI_add]; rfl
        rw [e]
        exact r_270 hT (rG_m hy4 g1 (Nat.le_succ k) (by omega) hf5) (fr_mo (fr_tr hf4 hf5) (fun _ _ => mD_r)) (0, nv T k) (by omega) (go _ (Or.inl ⟨hk2, by omega, rfl⟩))
    · exact bad (1, fm T k) (by unfold nF; rw [if_pos hk2]) rfl (hQ _ (Or.inr ⟨hk2, hlf, rfl⟩))
  rw [hd]
  cases hp : pti q T k with
  | some p =>
    obtain ⟨e1, e2, e3⟩ := pti_enc hp
    have hkn := kd_num (T := T) (k := k) (by omega)
    have hlf : lfx q nl T k = some (ow (lt T k) - 3) := by rw [lfx_eq, hp]
    rw [show nixI (some p) = nI p from rfl, if_neg (ph_m1n (by omega)), wq_bind]
    refine wq_mono (r_asksWord hT hA3.1 hs3.2.2.1 (pti_wxi hp)) (fun y4 p4 => ?_)
    have hs4 := rG_m hs3 p4.1 (Nat.le_succ k) (by omega) p4.2
    have f4 : fr rD σ y4 := fr_mo (fr_tr ff3 p4.2) (fun _ _ => mD_r)
    unfold f_X12_qPartTold_212 f_X12_qPartTold_231 f_X12_qPartTold_232
    rw [if_neg (ph_m1n (by omega)), if_neg (ph_m1n (by omega)), show (40 : Int32) + nI p = nI (rEnc (1, ow (lt T k) - 3)) by rw [show (40 : Int32) = nI 40 from rfl, nI_add, e1]]
    exact r_270 hT hs4 f4 _ (by omega) (go _ (Or.inr ⟨by omega, _, hlf, rfl⟩))
  | none =>
    rw [show nixI none = (-1 : Int32) from rfl, if_pos rfl]
    unfold f_X12_qPartTold_212
    rw [if_pos rfl, hs3.2.2.2.2.2.2.2.2.2.1]
    cases q with
    | true =>
      have hlf : lfx true nl T k = none := by rw [lfx_eq, hp]; rfl
      unfold f_X12_qPartTold_231 f_X12_qPartTold_232
      rw [if_neg (show ¬ ((if true = true then (1 : Int32) else 0) = 0) by decide), if_pos rfl, if_pos rfl]
      exact numb hlf y3 hs3 ff3
    | false =>
      have hlf : lfx false nl T k = whoi nl T k := by rw [lfx_eq, hp]; rfl
      rw [if_pos (show ((if false = true then (1 : Int32) else 0) = 0) by decide), wq_bind]
      refine wq_mono (r_guestHere hT hA3.1 (hs3.2.2.2.2.2.2.2.2.2.2 rfl)) ?_
      rintro ⟨g, y4⟩ ⟨hg1, hg2, hg3, hf4⟩
      dsimp only at hg1 hg2 hg3 hf4 ⊢
      unfold f_X12_qPartTold_232
      rw [if_pos rfl, hg1]
      cases hw : whoi nl T k with
      | none =>
        rw [hw] at hg3 hlf
        rw [show nixI none = (-1 : Int32) from rfl, if_pos rfl]
        exact numb hlf y4 (rG_m hs3 (hg3 rfl).1 (Nat.le_refl _) h.2.1 hf4) (fr_tr ff3 hf4)
      | some i =>
        rw [hw] at hg2 hlf
        have hk1 : kd T k = 1 := by
          unfold whoi at hw
          by_cases z : kd T k = 1
          · exact z
          · rw [if_neg z] at hw; cases hw
        have hkn := kd_num (T := T) (k := k) (by omega)
        have hi5 : i < 5 := by
          unfold whoi at hw
          rw [if_pos hk1] at hw
          have := nix_lt nl 0 i hw
          have := (hs3.2.2.2.2.2.2.2.2.2.2 rfl).2.1
          omega
        rw [show nixI (some i) = nI i from rfl, if_neg (ph_m1n (by omega))]
        have e1 : rEnc (1, i) = 52 + i := by simp only [rEnc]; rw [if_pos hi5]
        rw [show (52 : Int32) + nI i = nI (rEnc (1, i)) by rw [show (52 : Int32) = nI 52 from rfl, nI_add, e1]]
        exact r_270 hT (rG_m hs3 (hg2 (by simp)) (Nat.le_succ k) (by omega) hf4) (fr_mo (fr_tr ff3 hf4) (fun _ _ => mD_r)) _ (by omega) (go _ (Or.inr ⟨by omega, _, hlf, rfl⟩))
