/-! THE REFERENCE READS A BLIND ONE, A TEST, A SLIP -/
theorem smk_b : ∀ a, a < 5 → ∀ b, b < 5 → ∀ x, x < 32 → ((smk a x).testBit b = (decide (a ≠ b) && !x.testBit b)) ∧ smk a x < 32 := by decide +kernel
theorem smk_or : ∀ a, a < 5 → ∀ b, b < 5 → ∀ x, x < 32 → smk a (x ||| 2 ^ b) = smk a x &&& (31 ^^^ 2 ^ b) := by decide +kernel
theorem ph_andn : ∀ x, x < 32 → ∀ b, b < 5 → nI x &&& (nI (2 ^ b) ^^^ (-1 : Int32)) = nI (x &&& (31 ^^^ 2 ^ b)) := by decide +kernel
section
variable {T : tT}
/-- a name looked up, behind a fault -/
theorem ms_namedN {e : Nat × Nat} {σ : fhM} (h : tF e σ) {n : Nat} (h1 : σ.1 29 1 = nI n) (hn : n ≤ 5) : wq (f_X12_guestNamed σ) (fun r => r.2 = σ ∧ ∃ g, g < 5 ∧ r.1 = nI g) := by
  unfold f_X12_guestNamed
  rw [m_nameN (tF_n h), wq_bind, wq_some]
  refine wq_for (R := fun i x => x = nI i) 0 n (Nat.zero_le _) ?_ ?_ rfl
  · rintro i x - hi rfl
    unfold f_X12_guestNamed_7
    rw [h1, if_neg (nI_ge hi (by omega)), if_pos (ph_in1 (by omega) (by omega))]
    split
    · rw [wq_some, fhK_r]; exact ⟨rfl, i, by omega, rfl⟩
    · rw [wq_some, fhK_l, nI_1]
  · rintro x rfl
    unfold f_X12_guestNamed_7
    rw [h1, if_pos (nI_le (Nat.le_refl n) (by omega)), if_neg (tF_n h), wq_some, fhK_r]
    exact ⟨rfl, 0, by decide, rfl⟩
/-- a name looked up -/
theorem ms_named (hT : tOK T) {k : Nat} {p : fhPS} {σ : fhM} (h : mP T k σ) (hw : mW σ) (hr : mRp p σ) : wq (f_X12_guestNamed σ) (fun r => ((aF T k).1 = 0 → ∀ g, nix p.nl 0 (lt T k) = some g → r.1 = nI g ∧ mP T (k + 1) r.2 ∧ r.2.1 0 37 = nI (fm T k)) ∧ ((aF T k).1 = 0 → nix p.nl 0 (lt T k) = none → tF (3, fm T k) r.2) ∧ ((aF T k).1 ≠ 0 → tF (aF T k) r.2) ∧ (∃ g, g < 5 ∧ r.1 = nI g) ∧ fr mD σ r.2) := by
  have hlen := nl_len p
  have h5 := hr.2.2.1.2.1
  unfold f_X12_guestNamed
  rw [wq_bind]
  refine wq_mono (m_name hT h hw) (fun r y => ?_)
  obtain ⟨y1, y2, y3⟩ := y
  obtain ⟨v, s⟩ := r
  dsimp only at y1 y2 y3 ⊢
  have hrs : mRp p s := mRp_m hr y3
  have s291 : s.1 29 1 = nI p.nl.length := hrs.2.2.1.1
  by_cases q1 : (aF T k).1 = 0
  · obtain ⟨hp, hv, h37⟩ := y1 q1
    obtain ⟨b1, b2, b3⟩ := aF_name q1
    have hlt := e27_lt b1 b2
    rw [hv]
    refine wq_for (R := fun i x => x = nI i ∧ ∀ j, j < i → p.nl[j]? ≠ some (lt T k)) 0 p.nl.length (Nat.zero_le _) ?_ ?_ ⟨rfl, fun j hj => by omega⟩
    · rintro i x - hi ⟨rfl, hx⟩
      unfold f_X12_guestNamed_7
      have hgl : p.nl[i]? = some p.nl[i] := List.getElem?_eq_getElem hi
      obtain ⟨a1, a2, a3, a4⟩ := hrs.2.2.1.2.2 i _ hgl
      rw [s291, if_neg (nI_ge hi (by omega)), if_pos (ph_in1 (by omega) (by omega)), ph_ix (by omega), a4]
      by_cases z : p.nl[i] = lt T k
      · rw [if_pos (by rw [lN_eqI (e27_lt a1 a2) hlt, z]), wq_some, fhK_r]
        have hx2 : nix p.nl 0 (lt T k) = some i := by
          have := nix_at p.nl 0 i hx (by rw [hgl, z])
          rw [this, Nat.zero_add]
        refine ⟨fun _ g hg => ?_, fun _ hg => ?_, fun z => absurd q1 z, ⟨i, by omega, rfl⟩, y3⟩
        · rw [hx2] at hg; cases hg; exact ⟨rfl, hp, h37⟩
        · rw [hx2] at hg; cases hg
      · rw [if_neg (fun y => z (by rw [lN_eqI (e27_lt a1 a2) hlt] at y; exact e27_inj a1 b1 y)), wq_some, fhK_l, nI_1]
        refine ⟨rfl, fun j hj => ?_⟩
        rcases Nat.lt_succ_iff_lt_or_eq.mp hj with y | y
        · exact hx j y
        · rw [y, hgl]; exact fun e => z (Option.some.inj e)
    · rintro x ⟨rfl, hx⟩
      unfold f_X12_guestNamed_7
      have hno : nix p.nl 0 (lt T k) = none := nix_no p.nl 0 hx
      rw [s291, if_pos (nI_le (Nat.le_refl _) (by omega)), if_pos hp.2.2.1, wq_let, wq_some, fhK_r, h37]
      obtain ⟨c, f⟩ := m_fail (q := (3, fm T k)) hp.2.2.1
      exact ⟨fun _ g hg => by (rw [hno] at hg; cases hg), fun _ _ => ⟨c, Nat.le_of_ble_eq_true rfl, Nat.le_of_ble_eq_true rfl⟩, fun z => absurd q1 z, ⟨0, by decide, rfl⟩, fr_tr y3 f⟩
  · obtain ⟨hF, hv⟩ := y2 q1
    have hF := mF_tF hF (aF_b q1)
    have := ms_namedN hF s291 h5
    unfold f_X12_guestNamed at this
    rw [m_nameN (tF_n hF), wq_bind, wq_some] at this
    rw [hv]
    refine wq_mono this (fun r z => ?_)
    rw [z.1]
    exact ⟨fun z => absurd z q1, fun z => absurd z q1, fun _ => hF, z.2, y3⟩
end
section
variable {T : tT}
theorem ms_blind (hT : tOK T) {k : Nat} {p : fhPS} {σ : fhM} (h : mP T k σ) (hk : k ≤ T.2) (hw : mW σ) (hr : mRp p σ) (ho : sOK T p k) (hn : p.n < 60) :
    wq (f_X12_blindTold σ) (fun s => wq (f_X12_statementTold_122 s) (fun s2 => mRes T (sBlind T p k) s2 ∧ frl sD σ s2)) := by
  have ho' := ho
  obtain ⟨o1, o2, o3, o4, o5, o6, o7, o8, o9, o10, o11, o12, o13⟩ := ho'
  have hlen := nl_len p
  have bad : ∀ e s, tF e s → frl sD σ s → wq (f_X12_statementTold_122 s) (fun s2 => tF e s2 ∧ frl sD σ s2) := fun e s hF hf => wq_mono (ms_semiN hF) (fun s2 z => ⟨z.1, frl_tr hf z.2⟩)
  -- behind a fault of the first name or the word
  have bad2 : ∀ e (s : fhM) (g : Int32), tF e s → mRp p s → frl sD σ s → wq (Option.bind (f_X12_asks 7 s) fun q2 => Option.bind (f_X12_guestNamed q2) fun q3 => if (q3.2.1 0 5) = 0 then if g = q3.1 then f_X12_blindTold_43 g q3.1 q3.2 else if (fhin g 10 && true) = true then if (((q3.2.1 32 (fhix g)) >>> (q3.1 &&& 31)) &&& (1 : Int32)) = 0 then f_X12_blindTold_43 g q3.1 q3.2 else f_X12_blindTold_52 g q3.1 q3.2 else none else f_X12_blindTold_52 g q3.1 q3.2) (fun s => wq (f_X12_statementTold_122 s) (fun s2 => tF e s2 ∧ frl sD σ s2)) := by
    intro e s g hF hrs hf
    rw [m_asksN (tF_n hF), wq_bind, wq_some, wq_bind]
    refine wq_mono (ms_namedN hF (by rw [hrs.2.2.1.1, hlen]) o5) (fun r z => ?_)
    rw [z.1, if_neg (tF_n hF)]
    unfold f_X12_blindTold_52
    rw [if_neg (tF_n hF), wq_some]
    exact bad _ _ hF hf
  unfold f_X12_blindTold
  rw [wq_bind]
  refine wq_mono (ms_named hT h hw hr) (fun r y => ?_)
  obtain ⟨y1, y2, y3, ⟨a0, ha0, y4⟩, y5⟩ := y
  obtain ⟨v, s⟩ := r
  dsimp only at y1 y2 y3 y4 y5 ⊢
  have hrs : mRp p s := mRp_m hr y5
  have f1 : frl sD σ s := frl_r y5 (fun _ _ => mD_s)
  unfold sBlind
  by_cases q1 : (aF T k).1 = 0
  · rw [gif_t q1]
    cases hx : nix p.nl 0 (lt T k) with
    | none => exact bad2 _ _ _ (y2 q1 hx) hrs f1
    | some a =>
      dsimp only
      obtain ⟨e1, hp, -⟩ := y1 q1 a hx
      obtain ⟨g1, g2⟩ := nix_in hx
      have hkT := kd_num (show kd T k ≠ 0 by have := (aF_0 q1).1; omega)
      rw [e1, wq_bind]
      refine wq_mono (r_as7 hT hp (mW_m hw y5)) (fun s3 u => ?_)
      obtain ⟨u1, u2, u3⟩ := u
      have hr3 := mRp_m hrs u3
      have f3 : frl sD σ s3 := frl_tr f1 (frl_r u3 (fun _ _ => mD_s))
      by_cases q2 : isw T (k + 1) 4
      · have u1 := u1 q2
        have hkT2 := kd_num (isw_k q2)
        have hw3 := mW_m (mW_m hw y5) u3
        rw [gif_t q2, wq_bind]
        refine wq_mono (ms_named hT u1 hw3 hr3) (fun r y => ?_)
        obtain ⟨x1, x2, x3, ⟨b0, hb0, x4⟩, x5⟩ := y
        obtain ⟨v2, s4⟩ := r
        dsimp only at x1 x2 x3 x4 x5 ⊢
        have hr4 : mRp p s4 := mRp_m hr3 x5
        have f4 : frl sD σ s4 := frl_tr f3 (frl_r x5 (fun _ _ => mD_s))
        have badN : ∀ e, tF e s4 → wq (if (s4.1 0 5) = 0 then if nI a = v2 then f_X12_blindTold_43 (nI a) v2 s4 else if (fhin (nI a) 10 && true) = true then if (((s4.1 32 (fhix (nI a))) >>> (v2 &&& 31)) &&& (1 : Int32)) = 0 then f_X12_blindTold_43 (nI a) v2 s4 else f_X12_blindTold_52 (nI a) v2 s4 else none else f_X12_blindTold_52 (nI a) v2 s4) (fun s => wq (f_X12_statementTold_122 s) (fun s2 => tF e s2 ∧ frl sD σ s2)) := by
          intro e hF
          rw [if_neg (tF_n hF)]
          unfold f_X12_blindTold_52
          rw [if_neg (tF_n hF), wq_some]
          exact bad _ _ hF f4
        by_cases q3 : (aF T (k + 2)).1 = 0
        · rw [gif_t q3]
          cases hy : nix p.nl 0 (lt T (k + 2)) with
          | none => exact badN _ (x2 q3 hy)
          | some b =>
            dsimp only
            obtain ⟨e2, hp4, h37⟩ := x1 q3 b hy
            obtain ⟨j1, j2⟩ := nix_in hy
            have hkT3 := kd_num (show kd T (k + 2) ≠ 0 by have := (aF_0 q3).1; omega)
            have hbl := o7 a
            have b43 : wq (f_X12_blindTold_43 (nI a) (nI b) s4) (fun s => wq (f_X12_statementTold_122 s) (fun s2 => tF (3, fm T (k + 2)) s2 ∧ frl sD σ s2)) := by
              unfold f_X12_blindTold_43
              rw [wq_let, h37]
              obtain ⟨c, f⟩ := m_fail (q := (3, fm T (k + 2))) hp4.2.2.1
              have hF : tF (3, fm T (k + 2)) (f_X12_fail 3 (nI (fm T (k + 2))) s4) := ⟨c, Nat.le_of_ble_eq_true rfl, Nat.le_of_ble_eq_true rfl⟩
              unfold f_X12_blindTold_52
              rw [if_neg (tF_n hF), wq_some]
              exact bad _ _ hF (frl_tr f4 (frl_r f (fun _ _ => mD_s)))
            rw [e2, if_pos hp4.2.2.1]
            have h8 := hr4.2.2.2.2.2.2.2.1 a (by omega)
            obtain ⟨t1, t2⟩ := smk_b a (by omega) b (by omega) (p.bl a) hbl
            by_cases q4 : a = b
            · rw [if_pos (by rw [q4]), gif_t (Or.inl q4)]
              exact b43
            · rw [if_neg (nIn q4 (by omega) (by omega)), if_pos (ph_in1 (by omega) (by omega)), ph_ix (by omega), h8]
              by_cases q5 : (p.bl a).testBit b = true
              · rw [gif_t (Or.inr q5), if_pos ((ph_bit0 (by omega) (by omega)).mpr (by rw [t1, q5]; simp))]
                exact b43
              · have q5' : (p.bl a).testBit b = false := by cases e : (p.bl a).testBit b with | true => exact absurd e q5 | false => rfl
                rw [gif_f (by rintro (z | z); exact q4 z; exact q5 z), if_neg (fun z => by have := (ph_bit0 (by omega) (by omega)).mp z; rw [t1, q5', decide_eq_true q4] at this; cases this)]
                unfold f_X12_blindTold_52
                rw [if_pos hp4.2.2.1, ph_in (by omega), decide_eq_true (show a < 10 by omega), if_pos (show (true && (true && true)) = true from rfl), ph_ix (by omega), h8, ph_shl1 (by omega), ph_andn _ t2 b (by omega), wq_some, ← smk_or a (by omega) b (by omega) _ hbl]
                have hor : p.bl a ||| 2 ^ b < 32 := by
                  have : (2 : Nat) ^ b < 2 ^ 5 := Nat.pow_lt_pow_right (by decide) (by omega)
                  exact Nat.or_lt_two_pow (n := 5) hbl this
                have f5 : frl sD σ (fhI s4 32 a (nI (smk a (p.bl a ||| 2 ^ b)))) := frl_I f4 (by unfold sD; omega)
                obtain ⟨h1, h2, h3, h4, h5, h6, h7, h8', h9, h10, h11⟩ := hr4
                refine wq_mono (ms_semi (p := (fhPS.wbl p (bl1 p.bl a b))) (k := k + 3) hT (mP_fr hp4 (fun i _ => ?_) ?_ ?_ ?_ ?_ ?_) (mW_fr (mW_m hw3 x5) (fun v i hv hi => ?_)) ?_ hn ?_) (fun s5 z => ⟨z.1, frl_tr f5 z.2⟩)
                · simp (disch := omega) only [fhI_e, fhI_o, fhI_s]
                · simp (disch := omega) only [fhI_e, fhI_o, fhI_s]
                · simp (disch := omega) only [fhI_e, fhI_o, fhI_s]
                · simp (disch := omega) only [fhI_e, fhI_o, fhI_s]
                · simp (disch := omega) only [fhI_e, fhI_o, fhI_s]
                · simp (disch := omega) only [fhI_e, fhI_o, fhI_s]
                · have hv2 : v ≠ 32 := by rintro rfl; exact Nat.not_lt_zero _ hi
                  simp (disch := omega) only [fhI_e, fhI_o, fhI_s]
                · refine ⟨?_, ?_, rN_fr h3 (by simp (disch := omega) only [fhI_e, fhI_o, fhI_s]) rfl, ?_, ?_, ?_, ?_, ?_, mTs_fr h9 (fun j => by simp (disch := omega) only [fhI_e, fhI_o, fhI_s]) (fun j => by simp (disch := omega) only [fhI_e, fhI_o, fhI_s]) (fun j _ => by simp (disch := omega) only [fhI_e, fhI_o, fhI_s]), mTs_fr h10 (fun j => by simp (disch := omega) only [fhI_e, fhI_o, fhI_s]) (fun j => by simp (disch := omega) only [fhI_e, fhI_o, fhI_s]) (fun j _ => by simp (disch := omega) only [fhI_e, fhI_o, fhI_s]), ?_⟩
                  · simp (disch := omega) only [fhI_e, fhI_o, fhI_s]; exact h1
                  · simp (disch := omega) only [fhI_e, fhI_o, fhI_s]; exact h2
                  · simp (disch := omega) only [fhI_e, fhI_o, fhI_s]; exact h4
                  · simp (disch := omega) only [fhI_e, fhI_o, fhI_s]; exact h5
                  · simp (disch := omega) only [fhI_e, fhI_o, fhI_s]; exact h6
                  · intro g x hx; simp (disch := omega) only [fhI_e, fhI_o, fhI_s]; exact h7 g x hx
                  · intro x hx
                    show _ = nI (smk x (bl1 p.bl a b x))
                    unfold bl1
                    by_cases z : x = a
                    · rw [if_pos z, z, fhI_e]
                    · rw [if_neg z, fhI_s z]
                      exact h8' x hx
                  · simp (disch := omega) only [fhI_e, fhI_o, fhI_s]; exact h11
                · by_cases q6 : isg T (k + 3) 59
                  · left
                    have hk3 := kd_num (isg_k q6)
                    refine ⟨by show 1 ≤ p.n + 1; omega, by show p.n + 1 ≤ 60; omega, o3, o4, o5, o6, ?_, o8, o9, o10, o11, by show (p.ru.map List.length).sum + (p.fa.map List.length).sum ≤ k + 3 + 1; omega, by omega⟩
                    intro x
                    show bl1 p.bl a b x < 32
                    unfold bl1
                    split
                    · exact hor
                    · exact o7 x
                  · exact Or.inr q6
        · rw [gif_f q3]
          exact badN _ (x3 q3)
      · have hF : tF (1, fm T (k + 1)) s3 := mF_tF (u2 q2) ⟨Nat.le_refl _, Nat.le_of_ble_eq_true rfl⟩
        rw [gif_f q2]
        have := bad2 _ s3 (nI a) hF hr3 f3
        rw [m_asksN (tF_n hF), wq_bind, wq_some] at this
        exact this
  · rw [gif_f q1]
    exact bad2 _ _ _ (y3 q1) hrs f1
end
