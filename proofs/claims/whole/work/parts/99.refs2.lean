/-! THE REFERENCE READS A GUEST -/
section
variable {T : tT}
theorem mF_tF {e : Nat × Nat} {σ : fhM} (h : mF e σ) (h1 : 1 ≤ e.1 ∧ e.1 ≤ 6) : tF e σ := ⟨h, h1.1, h1.2⟩
theorem aF_b {T : tT} {k : Nat} (h : (aF T k).1 ≠ 0) : 1 ≤ (aF T k).1 ∧ (aF T k).1 ≤ 6 := by
  unfold aF at h ⊢
  split
  · exact ⟨Nat.le_refl _, Nat.le_of_ble_eq_true rfl⟩
  · split
    · exact ⟨Nat.le_refl _, Nat.le_of_ble_eq_true rfl⟩
    · rename_i h1 h2
      rw [if_neg h1, if_neg h2] at h
      exact absurd rfl h
theorem nF_b {T : tT} {k lo hi : Nat} (h : (nF T k lo hi).1 ≠ 0) : 1 ≤ (nF T k lo hi).1 ∧ (nF T k lo hi).1 ≤ 6 := by
  unfold nF at h ⊢
  split
  · exact ⟨Nat.le_refl _, Nat.le_of_ble_eq_true rfl⟩
  · split
    · exact ⟨Nat.le_refl _, Nat.le_of_ble_eq_true rfl⟩
    · split
      · exact ⟨Nat.le_of_ble_eq_true rfl, Nat.le_of_ble_eq_true rfl⟩
      · rename_i h1 h2 h3
        rw [if_neg h1, if_neg h2, if_neg h3] at h
        exact absurd rfl h
/-- the loop over the names behind a fault, and all behind it -/
theorem ms_g19N {e : Nat × Nat} {σ : fhM} (h : tF e σ) {n : Nat} (h1 : σ.1 29 1 = nI n) (hn : n ≤ 5) (v : Int64) : wq (fhlp (fun x => f_X12_guestTold_19 v x.1 x.2) ((0 : Int32), σ)) (fun s => s = σ) := by
  refine wq_for (R := fun i x => x = (nI i, σ)) 0 n (Nat.zero_le _) ?_ ?_ rfl
  · rintro i x - hi rfl
    (try dsimp only)
    unfold f_X12_guestTold_19
    rw [h1, if_neg (nI_ge hi (by omega)), if_neg (tF_n h)]
    unfold f_X12_guestTold_58
    rw [wq_some, fhK_l, nI_1]
  · rintro x rfl
    (try dsimp only)
    unfold f_X12_guestTold_19
    rw [h1, if_pos (nI_le (Nat.le_refl n) (by omega)), m_asksN (tF_n h), wq_bind, wq_some, m_numberN (tF_n h), wq_bind, wq_some, if_neg (tF_n h), wq_some, fhK_r]
end
section
variable {T : tT}
theorem ms_guest (hT : tOK T) {k b : Nat} (hb : b ≤ T.2) {p : fhPS} {σ : fhM} (h : mP T k σ) (hk : k ≤ T.2) (hw : mW σ) (hr : mRp p σ) (ho : sOK T p k) (hn : p.n < 60) :
    wq (f_X12_guestTold (nI b) σ) (fun s => wq (f_X12_statementTold_122 s) (fun s2 => mRes T (gif (p.gs.length = 5) (.inl (5, b)) (sGuest T p k)) s2 ∧ frl sD σ s2)) := by
  obtain ⟨o1, o2, o3, o4, o5, o6, o7, o8, o9, o10, o11, o12, o13⟩ := ho
  have hlen := nl_len p
  have bad : ∀ e s, tF e s → frl sD σ s → wq (f_X12_statementTold_122 s) (fun s2 => tF e s2 ∧ frl sD σ s2) := fun e s hF hf => wq_mono (ms_semiN hF) (fun s2 z => ⟨z.1, frl_tr hf z.2⟩)
  have h291 : σ.1 29 1 = nI p.gs.length := by rw [hr.2.2.1.1, hlen]
  unfold f_X12_guestTold
  rw [wq_bind]
  refine wq_mono (ms_full (kind := 1) (room := 5) (by decide) h h291 o5 (by decide) hb hT) (fun r z => ?_)
  obtain ⟨z1, z2, z3⟩ := z
  by_cases q0 : p.gs.length = 5
  · obtain ⟨a1, a2⟩ := z1 q0
    rw [if_pos a1, wq_some, gif_t q0]
    exact bad _ _ a2 (frl_r z3 (fun _ _ => mD_s))
  rw [z2 q0, if_neg fN1, gif_f q0, wq_bind]
  dsimp only
  unfold sGuest
  refine wq_mono (m_name hT h hw) (fun r y => ?_)
  obtain ⟨y1, y2, y3⟩ := y
  obtain ⟨v, s⟩ := r
  dsimp only at y1 y2 y3 ⊢
  have hrs : mRp p s := mRp_m hr y3
  have hws := mW_m hw y3
  have f1 : frl sD σ s := frl_r y3 (fun _ _ => mD_s)
  have s291 : s.1 29 1 = nI p.gs.length := by rw [hrs.2.2.1.1, hlen]
  by_cases q1 : (aF T k).1 = 0
  · obtain ⟨hp, hv, h37⟩ := y1 q1
    obtain ⟨b1, b2, b3⟩ := aF_name q1
    have hkT := kd_num (show kd T k ≠ 0 by have := (aF_0 q1).1; omega)
    rw [gif_t q1, hv]
    have hlt := e27_lt b1 b2
    refine wq_for (R := fun i x => x.1 = nI i ∧ ((x.2 = s ∧ ∀ j, j < i → p.nl[j]? ≠ some (lt T k)) ∨ (lt T k ∈ p.nl ∧ tF (3, fm T k) x.2 ∧ fr mD s x.2))) 0 p.gs.length (Nat.zero_le _) ?_ ?_ ⟨rfl, Or.inl ⟨rfl, fun j hj => by omega⟩⟩
    · rintro i ⟨x, s2⟩ - hi ⟨rfl, hx⟩
      (try dsimp only)
      rcases hx with ⟨rfl, hx⟩ | ⟨g1, g2, g3⟩
      · unfold f_X12_guestTold_19
        have hgl : p.nl[i]? = some p.nl[i] := List.getElem?_eq_getElem (by omega)
        obtain ⟨a1, a2, a3, a4⟩ := hrs.2.2.1.2.2 i _ hgl
        rw [s291, if_neg (nI_ge hi (by omega)), if_pos hp.2.2.1, if_pos (ph_in1 (by omega) (by omega)), ph_ix (by omega), a4]
        by_cases z : p.nl[i] = lt T k
        · rw [if_pos (by rw [lN_eqI (e27_lt a1 a2) hlt, z]), wq_let, h37]
          obtain ⟨c, f⟩ := m_fail (q := (3, fm T k)) hp.2.2.1
          unfold f_X12_guestTold_58
          rw [wq_some, fhK_l, nI_1]
          exact ⟨rfl, Or.inr ⟨List.mem_of_getElem? (by rw [hgl, z]), ⟨c, Nat.le_of_ble_eq_true rfl, Nat.le_of_ble_eq_true rfl⟩, f⟩⟩
        · rw [if_neg (fun y => z (by rw [lN_eqI (e27_lt a1 a2) hlt] at y; exact e27_inj a1 b1 y))]
          unfold f_X12_guestTold_58
          rw [wq_some, fhK_l, nI_1]
          refine ⟨rfl, Or.inl ⟨rfl, fun j hj => ?_⟩⟩
          rcases Nat.lt_succ_iff_lt_or_eq.mp hj with y | y
          · exact hx j y
          · rw [y, hgl]; exact fun e => z (Option.some.inj e)
      · unfold f_X12_guestTold_19
        have e291 : s2.1 29 1 = nI p.gs.length := by rw [g3.2 29 1 (by unfold mD; omega)]; exact s291
        rw [e291, if_neg (nI_ge hi (by omega)), if_neg (tF_n g2)]
        unfold f_X12_guestTold_58
        rw [wq_some, fhK_l, nI_1]
        exact ⟨rfl, Or.inr ⟨g1, g2, g3⟩⟩
    · rintro ⟨x, s2⟩ ⟨rfl, hx⟩
      (try dsimp only)
      rcases hx with ⟨rfl, hx⟩ | ⟨g1, g2, g3⟩
      · have hno : lt T k ∉ p.nl := by
          intro z
          obtain ⟨j, hj⟩ := List.getElem?_of_mem z
          have := (List.getElem?_eq_some_iff.mp hj).1
          exact hx j (by omega) hj
        rw [gif_f hno]
        unfold f_X12_guestTold_19
        rw [s291, if_pos (nI_le (Nat.le_refl _) (by omega)), wq_bind]
        refine wq_mono (r_as5 hT hp hws) (fun s3 u => ?_)
        obtain ⟨u1, u2, u3⟩ := u
        have hr3 := mRp_m hrs u3
        have f3 : frl sD σ s3 := frl_tr f1 (frl_r u3 (fun _ _ => mD_s))
        rw [wq_bind]
        by_cases q2 : isw T (k + 1) 2
        · have u1 := u1 q2
          have hkT2 := kd_num (isw_k q2)
          rw [gif_t q2, hr3.2.1, show nI p.m - (1 : Int32) = nI (p.m - 1) by rw [show p.m = p.m - 1 + 1 by omega]; exact nI_pred _]
          have hnum := m_number (lo := 0) (hi := p.m - 1) hT (by decide) (by omega) u1
          refine wq_mono hnum (fun r w => ?_)
          obtain ⟨x, s4⟩ := r
          obtain ⟨w1, w2, w3⟩ := w
          dsimp only at w1 w2 w3 ⊢
          have hr4 := mRp_m hr3 w3
          have f4 : frl sD σ s4 := frl_tr f3 (frl_r w3 (fun _ _ => mD_s))
          by_cases q3 : (nF T (k + 2) 0 (p.m - 1)).1 = 0
          · obtain ⟨w4, w5⟩ := w1 q3
            obtain ⟨v1, v2, v3, v4⟩ := nF_0 q3
            have hkT3 := kd_num (show kd T (k + 2) ≠ 0 by omega)
            have e291 : s4.1 29 1 = nI p.gs.length := by rw [hr4.2.2.1.1, hlen]
            rw [gif_t q3, if_pos w4.2.2.1, e291, ph_in1 (k := p.gs.length) (n := 5) (by omega) (by omega), ph_in (k := p.gs.length) (n := 10) (by omega), decide_eq_true (show p.gs.length < 10 by omega), if_pos (show (true && true) = true from rfl), ph_ix (by omega), nI_1, wq_some, fhK_r, w5]
            have f5 : frl sD σ (fhI (fhI (fhJ s4 30 p.gs.length (lN (e27 (lt T k)))) 31 p.gs.length (nI (nv T (k + 2)))) 29 1 (nI (p.gs.length + 1))) := by
              refine frl_I (frl_I (frl_J f4 ?_) ?_) ?_
              all_goals (unfold sD; omega)
            obtain ⟨h1, h2, h3, h4, h5, h6, h7, h8, h9, h10, h11⟩ := hr4
            have hg3 : p.nl ++ [lt T k] = ((fhPS.wgs p (p.gs ++ [(lt T k, nv T (k + 2))])) : fhPS).nl := by
              show _ = (p.gs ++ [(lt T k, nv T (k + 2))]).map Prod.fst
              rw [List.map_append]; rfl
            refine wq_mono (ms_semi (p := (fhPS.wgs p (p.gs ++ [(lt T k, nv T (k + 2))]))) (k := k + 3) hT (mP_fr w4 (fun i _ => ?_) ?_ ?_ ?_ ?_ ?_) (mW_fr (mW_m (mW_m hws u3) w3) (fun v i hv hi => ?_)) ?_ hn ?_) (fun s5 z => ⟨z.1, frl_tr f5 z.2⟩)
            · simp (disch := omega) only [fhI_e, fhI_o, fhI_s]; rw [fhJ_1]
            · simp (disch := omega) only [fhI_e, fhI_o, fhI_s]; rw [fhJ_1]
            · simp (disch := omega) only [fhI_e, fhI_o, fhI_s]; rw [fhJ_1]
            · simp (disch := omega) only [fhI_e, fhI_o, fhI_s]; rw [fhJ_1]
            · simp (disch := omega) only [fhI_e, fhI_o, fhI_s]; rw [fhJ_1]
            · simp (disch := omega) only [fhI_e, fhI_o, fhI_s]; rw [fhJ_1]
            · have hv2 : v ≠ 29 ∧ v ≠ 31 := by
                refine ⟨?_, ?_⟩ <;> (rintro rfl; exact Nat.not_lt_zero _ hi)
              simp (disch := omega) only [fhI_e, fhI_o, fhI_s]; rw [fhJ_1]
            · refine ⟨?_, ?_, ?_, ?_, ?_, ?_, ?_, ?_, mTs_fr h9 (fun j => by simp (disch := omega) only [fhI_e, fhI_o, fhI_s]; rw [fhJ_1]) (fun j => by simp (disch := omega) only [fhI_e, fhI_o, fhI_s]; rw [fhJ_1]) (fun j _ => by simp (disch := omega) only [fhI_e, fhI_o, fhI_s]; rw [fhJ_1]), mTs_fr h10 (fun j => by simp (disch := omega) only [fhI_e, fhI_o, fhI_s]; rw [fhJ_1]) (fun j => by simp (disch := omega) only [fhI_e, fhI_o, fhI_s]; rw [fhJ_1]) (fun j _ => by simp (disch := omega) only [fhI_e, fhI_o, fhI_s]; rw [fhJ_1]), ?_⟩
              · simp (disch := omega) only [fhI_e, fhI_o, fhI_s]; rw [fhJ_1]; exact h1
              · simp (disch := omega) only [fhI_e, fhI_o, fhI_s]; rw [fhJ_1]; exact h2
              · rw [← hg3]
                refine ⟨?_, by rw [List.length_append, List.length_singleton]; omega, fun g l hgl => ?_⟩
                · simp (disch := omega) only [fhI_e, fhI_o, fhI_s]; rw [List.length_append, List.length_singleton, nl_len]
                · rcases Nat.lt_or_ge g p.nl.length with y | y
                  · rw [List.getElem?_append_left y] at hgl
                    obtain ⟨y1, y2, y3, y4⟩ := h3.2.2 g l hgl
                    refine ⟨y1, y2, y3, ?_⟩
                    rw [fhI_2, fhI_2, fhJ_r, if_neg (by omega)]
                    exact y4
                  · rw [List.getElem?_append_right y] at hgl
                    have e : g - p.nl.length = 0 := by
                      cases y5 : g - p.nl.length with
                      | zero => rfl
                      | succ n => rw [y5] at hgl; cases hgl
                    rw [e] at hgl
                    cases hgl
                    refine ⟨b1, b2, b3, ?_⟩
                    rw [fhI_2, fhI_2, fhJ_r, if_pos ⟨rfl, by omega⟩]
              · simp (disch := omega) only [fhI_e, fhI_o, fhI_s]; rw [fhJ_1]; exact h4
              · simp (disch := omega) only [fhI_e, fhI_o, fhI_s]; rw [fhJ_1]; exact h5
              · simp (disch := omega) only [fhI_e, fhI_o, fhI_s]; rw [fhJ_1]; exact h6
              · intro g x hx
                have hx : (p.gs ++ [(lt T k, nv T (k + 2))])[g]? = some x := hx
                rcases Nat.lt_or_ge g p.gs.length with y | y
                · rw [List.getElem?_append_left y] at hx
                  simp (disch := omega) only [fhI_e, fhI_o, fhI_s]; rw [fhJ_1]; exact h7 g x hx
                · rw [List.getElem?_append_right y] at hx
                  have e : g - p.gs.length = 0 := by
                    cases y5 : g - p.gs.length with
                    | zero => rfl
                    | succ n => rw [y5] at hx; cases hx
                  rw [e] at hx
                  cases hx
                  rw [show g = p.gs.length by omega]
                  simp (disch := omega) only [fhI_e, fhI_o, fhI_s]
              · intro a ha; simp (disch := omega) only [fhI_e, fhI_o, fhI_s]; rw [fhJ_1]; exact h8 a ha
              · simp (disch := omega) only [fhI_e, fhI_o, fhI_s]; rw [fhJ_1]; exact h11
            · by_cases q6 : isg T (k + 3) 59
              · left
                have hk3 := kd_num (isg_k q6)
                refine ⟨by show 1 ≤ p.n + 1; omega, by show p.n + 1 ≤ 60; omega, o3, o4, by show (p.gs ++ [_]).length ≤ 5; rw [List.length_append, List.length_singleton]; omega, ?_, o7, o8, o9, o10, ?_, by show (p.ru.map List.length).sum + (p.fa.map List.length).sum ≤ k + 3 + 1; omega, by omega⟩
                · intro x hx
                  have hx : x ∈ p.gs ++ [(lt T k, nv T (k + 2))] := hx
                  rcases List.mem_append.mp hx with y | y
                  · exact o6 x y
                  · cases List.mem_singleton.mp y
                    exact ⟨b1, b2, b3, by show nv T (k + 2) < p.m; omega⟩
                · intro c hc
                  obtain ⟨nl, j, i, g1, g2⟩ := o11 c hc
                  exact ⟨nl, j, i, g1, by show nl.length ≤ (p.gs ++ [_]).length; rw [List.length_append]; omega⟩
              · exact Or.inr q6
          · have hF := mF_tF (w2 q3) (nF_b q3)
            rw [gif_f q3, if_neg (tF_n hF), wq_some, fhK_r]
            exact bad _ _ hF f4
        · have hF : tF (1, fm T (k + 1)) s3 := mF_tF (u2 q2) ⟨Nat.le_refl _, Nat.le_of_ble_eq_true rfl⟩
          rw [gif_f q2, m_numberN (tF_n hF), wq_some, if_neg (tF_n hF), wq_some, fhK_r]
          exact bad _ _ hF f3
      · rw [gif_t g1]
        unfold f_X12_guestTold_19
        have e291 : s2.1 29 1 = nI p.gs.length := by rw [g3.2 29 1 (by unfold mD; omega)]; exact s291
        rw [e291, if_pos (nI_le (Nat.le_refl _) (by omega)), m_asksN (tF_n g2), wq_bind, wq_some, m_numberN (tF_n g2), wq_bind, wq_some, if_neg (tF_n g2), wq_some, fhK_r]
        exact bad _ _ g2 (frl_tr f1 (frl_r g3 (fun _ _ => mD_s)))
  · obtain ⟨hF, -⟩ := y2 q1
    have hF := mF_tF hF (aF_b q1)
    rw [gif_f q1]
    refine wq_mono (ms_g19N hF s291 o5 v) (fun s2 z => ?_)
    rw [z]
    exact bad _ _ hF f1
end
