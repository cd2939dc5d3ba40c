/-! the class's FACTS and PARTS -/
section
variable {T : tT} {m K P : Nat} {q : Bool} {nl : List (List Nat)} {n : Nat}
/-- the sign is taken, the depth is as it was -/
theorem gA_close (hT : tOK T) (hm : tend T m) {o k c : Nat} {out : gC} {σ : fhM} (h : cG T m K P q nl (o + 1) k out σ) (hc : c < 256) :
    (isg T k c → cG T m K P q nl o (k + 1) out (fhI (f_X8_takeSign (nI c) σ) 9 4 ((f_X8_takeSign (nI c) σ).1 9 4 - (1 : Int32)))) ∧ (¬ isg T k c → cZ K P q (1, fm T k) (fhI (f_X8_takeSign (nI c) σ) 9 4 ((f_X8_takeSign (nI c) σ).1 9 4 - (1 : Int32)))) ∧ fr (gD K) σ (fhI (f_X8_takeSign (nI c) σ) 9 4 ((f_X8_takeSign (nI c) σ).1 9 4 - (1 : Int32))) := by
  obtain ⟨a1, a2, a3⟩ := c_takeSign (c := c) hT hm h.1 hc
  refine ⟨fun z => ?_, fun z => ?_, fr_I (fr_mo a3 (fun _ _ y => Or.inl y)) (Or.inr (Or.inr ⟨rfl, rfl⟩))⟩
  · have e : f_X8_takeSign (nI c) σ = f_X8_advance σ := by
      unfold f_X8_takeSign f_X8_takeSign_12 fhlet
      (try dsimp only)
      rw [if_pos (by rw [c_isSign hT hm h.1 hc]; exact z)]
    rw [e]
    obtain ⟨b1, b2⟩ := cG_adv hT hm h (isg_k z)
    rw [b1.2.2.2.2.1, show nI (o + 1) - (1 : Int32) = nI o from nI_pred o]
    exact (cG_o b1).1
  · obtain ⟨b1, b2⟩ := cG_bad h (a2 z) a3
    exact (cZ_o b1 _).1
theorem gP_bad {o : Nat} {out : gC} {e : Nat × Nat} {σ s : fhM} (h : cZ K P q e s) (hf : fr (gD K) σ s) : gP T m K P q nl o out (.inl e) σ s := ⟨h, hf⟩
theorem gP_ok {o k : Nat} {out c : gC} {σ s : fhM} (h : cG T m K P q nl o k (out ++ c) s) (hf : fr (gD K) σ s) : gP T m K P q nl o out (.inr (k, c)) σ s := ⟨h, hf⟩
/-- behind what was opened: a step more, one less is open -/
theorem gA_done (hT : tOK T) (hm : tend T m) {o k op w : Nat} {out : gC} {σ : fhM} (h : cG T m K P q nl (o + 1) k out σ) (hl : out.length + 1 ≤ k) (ho : op ≤ 14) (hw : w < 100000) :
    cG T m K P q nl o k (out ++ [(op, w)]) (fhI (f_X3_add K (nI op) (nI w) σ) 9 4 ((f_X3_add K (nI op) (nI w) σ).1 9 4 - (1 : Int32))) ∧ fr (gD K) σ (fhI (f_X3_add K (nI op) (nI w) σ) 9 4 ((f_X3_add K (nI op) (nI w) σ).1 9 4 - (1 : Int32))) := by
  obtain ⟨b, g⟩ := cG_add hT hm h hl (op, w) (by omega) hw
  have e15 : (if (op, w).1 = 15 then 0 else (op, w).1) = op := if_neg (by show ¬ op = 15; omega)
  rw [e15] at b g
  have b : cG T m K P q nl (o + 1) k (out ++ [(op, w)]) (f_X3_add K (nI op) (nI w) σ) := b
  have g : fr (gD K) σ (f_X3_add K (nI op) (nI w) σ) := g
  rw [b.2.2.2.2.1, show nI (o + 1) - (1 : Int32) = nI o from nI_pred o]
  exact ⟨(cG_o b).1, fr_tr g (cG_o (o' := o) b).2⟩
theorem gA_claim (hT : tOK T) (hm : tend T m) {o k : Nat} (ih : ∀ w o k, gA T m K P q nl n w o k) : gA T m K P q nl (n + 1) 2 o k := by
  intro r hr d i σ out hd ho h hi
  obtain ⟨d, rfl⟩ : ∃ d', d = d' + 1 := ⟨d - 1, by simp only [glv] at hd; omega⟩
  show wq (f_X5_claim (fgR d) σ) _
  have hl := h.2.2.2.1
  have sg : ∀ c, c < 256 → (f_X8_isSign (nI c) σ = true) = isg T k c := fun c hc => c_isSign hT hm h.1 hc
  have sw : ∀ j, j < 32 → (f_X8_isWord (nI j) σ = true) = isw T k j := fun j hj => c_isWord hm h.1 hj
  have s91 : (f_X8_isSign 91 σ = true) = isg T k 91 := sg 91 (by decide)
  have s22 : (f_X8_isWord 22 σ = true) = isw T k 22 := sw 22 (by decide)
  have s23 : (f_X8_isWord 23 σ = true) = isw T k 23 := sw 23 (by decide)
  unfold f_X5_claim
  have hr : gif (isg T k 91) _ _ = some r := hr
  rcases gif_some hr with ⟨q1, hr⟩ | ⟨q1, hr⟩
  · rw [if_pos (by rw [s91]; exact q1), wq_let]
    obtain ⟨d1, d2, d3⟩ := cG_deep hT hm h ho (isg_k q1)
    by_cases q6 : 6 ≤ o
    · rw [if_pos q6] at hr
      obtain ⟨e1, e2⟩ := d2 q6
      rw [gbad_some hr, e1, if_neg (by decide), wq_some]
      exact gP_bad e2 d3
    · rw [if_neg q6] at hr
      obtain ⟨e1, e2⟩ := d1 (by omega)
      rw [e1, if_pos rfl, wq_bind]
      rcases sq_some hr with ⟨e, h1, rfl⟩ | ⟨j, c, h1, h2⟩
      · refine wq_mono (ih 0 (o + 1) (k + 1) _ h1 d 0 _ out (by simp only [glv] at hd ⊢; omega) (by omega) e2 (Nat.zero_le _)) (fun s p => ?_)
        have p1 : cZ K P q e s := p.1
        rw [wq_let, wq_some, c_takeSignN p1.1]
        exact gP_bad (cZ_o p1 _).1 (fr_tr (fr_tr d3 p.2) (cZ_o p1 _).2)
      · refine wq_mono (ih 0 (o + 1) (k + 1) _ h1 d 0 _ out (by simp only [glv] at hd ⊢; omega) (by omega) e2 (Nat.zero_le _)) (fun s p => ?_)
        have p1 : cG T m K P q nl (o + 1) j (out ++ c) s := p.1
        obtain ⟨b1, b2, b3⟩ := gA_close (c := 93) hT hm p1 (by decide)
        rw [wq_let, wq_some]
        rcases h2 with ⟨e, h2, rfl⟩ | ⟨k2, c2, h2, rfl⟩
        · rcases sgn_some h2 with ⟨_, e3⟩ | ⟨z, e3⟩
          · cases e3
          · cases e3
            exact gP_bad (b2 z) (fr_tr (fr_tr d3 p.2) b3)
        · rcases sgn_some h2 with ⟨z, e3⟩ | ⟨_, e3⟩
          · cases e3
            refine gP_ok ?_ (fr_tr (fr_tr d3 p.2) b3)
            rw [List.append_nil]
            exact b1 z
          · cases e3
  rw [if_neg (by rw [s91]; exact q1)]
  rcases gif_some hr with ⟨q2, hr⟩ | ⟨q2, hr⟩
  · rw [if_pos (by rw [s22]; exact q2), wq_let]
    obtain ⟨d1, d2, d3⟩ := cG_deep hT hm h ho (isw_k q2)
    by_cases q6 : 6 ≤ o
    · rw [if_pos q6] at hr
      obtain ⟨e1, e2⟩ := d2 q6
      rw [gbad_some hr, e1, if_neg (by decide), wq_some]
      exact gP_bad e2 d3
    · rw [if_neg q6] at hr
      obtain ⟨e1, e2⟩ := d1 (by omega)
      rw [e1, if_pos rfl, wq_bind]
      rcases sq_some hr with ⟨e, h1, rfl⟩ | ⟨j, c, h1, h2⟩
      · refine wq_mono (ih 2 (o + 1) (k + 1) _ h1 d 0 _ out (by simp only [glv] at hd ⊢; omega) (by omega) e2 (Nat.zero_le _)) (fun s p => ?_)
        have p1 : cZ K P q e s := p.1
        obtain ⟨b1, b2⟩ := cZ_add p1 3 0
        rw [if_pos (cH_K p1.2), wq_let, wq_some, p1.2.1]
        exact gP_bad (cZ_o b1 _).1 (fr_tr (fr_tr (fr_tr d3 p.2) b2) (cZ_o b1 _).2)
      · have hfit : k + 1 + 1 ≤ j ∧ k + 1 + c.length ≤ j := rd_fit T q nl n 2 (o + 1) (k + 1) _ h1
        refine wq_mono (ih 2 (o + 1) (k + 1) _ h1 d 0 _ out (by simp only [glv] at hd ⊢; omega) (by omega) e2 (Nat.zero_le _)) (fun s p => ?_)
        have p1 : cG T m K P q nl (o + 1) j (out ++ c) s := p.1
        obtain ⟨b1, b2⟩ := gA_done hT hm p1 (by rw [List.length_append]; omega) (show 3 ≤ 14 by decide) (show 0 < 100000 by decide)
        rw [if_pos (cG_K p1).1, wq_let, wq_some, (cG_K p1).2]
        rcases h2 with ⟨e, h2, rfl⟩ | ⟨k2, c2, h2, rfl⟩
        · cases h2
        · cases h2
          exact gP_ok (by rw [← List.append_assoc]; exact b1) (fr_tr (fr_tr d3 p.2) b2)
  rw [if_neg (by rw [s22]; exact q2)]
  rcases gif_some hr with ⟨q3, hr⟩ | ⟨q3, hr⟩
  · rw [if_pos (by rw [s23]; exact q3), if_pos (cG_K h).1, wq_let, wq_let, wq_some, gok_some hr, (cG_K h).2]
    -- the step is laid first, then the word is taken
    obtain ⟨h1, h2, h3, h4, h5, h6, h7⟩ := h
    have hK := ph_K h6.2.2.2.1
    have hT2 := hT.1
    have hm1 := hm.1
    have hkm := c_kd hm (isw_k q3)
    have f := c_addN K 0 1 σ
    have a1 : cS K (out ++ [(15, 1)]) (f_X3_add K 0 1 σ) := c_add h6.2.2.2.1 h3 (by omega) (15, 1) (by decide) (by decide)
    have a0 : cP T m k (f_X3_add K 0 1 σ) := cP_fr h1 (fun j => f.2 _ _ (by unfold cDk; omega)) (fun j => f.2 _ _ (by unfold cDk; omega))
    obtain ⟨b1, b2⟩ := c_adv hT hm hkm a0
    refine gP_ok ⟨b1, by omega, ?_, by rw [List.length_append, List.length_singleton]; omega, ?_, ?_, fun hq => ?_⟩ (fr_tr (fr_mo f (fun _ _ z => Or.inr (Or.inl z))) (fr_mo b2 (fun _ _ z => Or.inl (cDa_f z))))
    · exact cS_fr a1 (b2.2 _ _ (by unfold cDa; omega)) (fun i => b2.2 _ _ (by unfold cDa; omega))
    · rw [b2.2 9 4 (by unfold cDa; omega), f.2 9 4 (by unfold cDk; omega)]; exact h5
    · exact cH_fr h6 (b2.1.trans f.1) ((b2.2 9 3 (by unfold cDa; omega)).trans (f.2 9 3 (by unfold cDk; omega)))
    · have hP := ph_P (h6.2.2.2.2 hq)
      exact cN_fr (h7 hq) ((b2.2 _ _ (by unfold cDa; omega)).trans (f.2 _ _ (by unfold cDk; omega))) (fun i => (b2.2 _ _ (by unfold cDa; omega)).trans (f.2 _ _ (by unfold cDk; omega)))
  rw [if_neg (by rw [s23]; exact q3), wq_bind]
  rcases sq_some hr with ⟨e, h1, rfl⟩ | ⟨j, c, h1, h2⟩
  · refine wq_mono (ih 3 o k _ h1 d 0 _ out (by simp only [glv] at hd ⊢; omega) ho h (Nat.zero_le _)) (fun s p => ?_)
    have p1 : cZ K P q e s := p.1
    rw [wq_let, wq_let, cZ_sign p1, c_advN p1.1, wq_bind]
    refine wq_mono (cZ_sum (by simp only [glv] at hd; omega) p1) (fun s2 p2 => ?_)
    obtain ⟨b, f⟩ := cZ_add p2.1 (f_X5_signHere s).1 0
    rw [if_pos (cH_K p2.1.2), wq_let, wq_some, p2.1.2.1]
    exact gP_bad b (fr_tr (fr_tr p.2 p2.2) f)
  · have hfit : k + 1 ≤ j ∧ k + c.length ≤ j := rd_fit T q nl n 3 o k _ h1
    refine wq_mono (ih 3 o k _ h1 d 0 _ out (by simp only [glv] at hd ⊢; omega) ho h (Nat.zero_le _)) (fun s p => ?_)
    have p1 : cG T m K P q nl o j (out ++ c) s := p.1
    rw [wq_let, wq_let, wq_bind]
    have t60 : (f_X8_isSign 60 s = true) = isg T j 60 := c_isSign (c := 60) hT hm p1.1 (by decide)
    have t62 : (f_X8_isSign 62 s = true) = isg T j 62 := c_isSign (c := 62) hT hm p1.1 (by decide)
    have t61 : (f_X8_isSign 61 s = true) = isg T j 61 := c_isSign (c := 61) hT hm p1.1 (by decide)
    -- with the sign's number
    have go : ∀ op : Nat, op ≤ 14 → kd T j ≠ 0 → f_X5_signHere s = (nI op, s) → (∀ x, sq (rd T q nl n 3 o (j + 1)) (fun k => gok k [(op, 0)]) = some x → wq (fgR d 3 0 (f_X8_advance (f_X5_signHere s).2)) (fun x_1 => wq (if fhiK (x_1.2.2 9 1) = true then fhlet (f_X3_add (x_1.2.2 9 1) (f_X5_signHere s).1 (0 : Int32) x_1) fun q5 => some q5 else none) (gP T m K P q nl o (out ++ c) x σ))) := by
      intro op hop hj0 hs x hx
      obtain ⟨a, f⟩ := cG_adv hT hm p1 hj0
      rw [hs]
      rcases sq_some hx with ⟨e, g1, rfl⟩ | ⟨j2, c2, g1, g2⟩
      · refine wq_mono (ih 3 o (j + 1) _ g1 d 0 _ _ (by simp only [glv] at hd ⊢; omega) ho a (Nat.zero_le _)) (fun s2 p2 => ?_)
        have p3 : cZ K P q e s2 := p2.1
        obtain ⟨b, g⟩ := cZ_add p3 (nI op) 0
        rw [if_pos (cH_K p3.2), wq_let, wq_some, p3.2.1]
        exact gP_bad b (fr_tr (fr_tr (fr_tr p.2 f) p2.2) g)
      · have hfit2 : j + 1 + 1 ≤ j2 ∧ j + 1 + c2.length ≤ j2 := rd_fit T q nl n 3 o (j + 1) _ g1
        refine wq_mono (ih 3 o (j + 1) _ g1 d 0 _ _ (by simp only [glv] at hd ⊢; omega) ho a (Nat.zero_le _)) (fun s2 p2 => ?_)
        have p3 : cG T m K P q nl o j2 (out ++ c ++ c2) s2 := p2.1
        obtain ⟨b, g⟩ := cG_add hT hm p3 (by rw [List.length_append, List.length_append]; omega) (op, 0) (by omega) (Nat.le_of_ble_eq_true rfl)
        have e15 : (if (op, 0).1 = 15 then 0 else (op, 0).1) = op := if_neg (by show ¬ op = 15; omega)
        rw [e15] at b g
        have b : cG T m K P q nl o j2 (out ++ c ++ c2 ++ [(op, 0)]) (f_X3_add K (nI op) 0 s2) := b
        have g : fr (gD K) s2 (f_X3_add K (nI op) 0 s2) := g
        rw [if_pos (cG_K p3).1, wq_let, wq_some, (cG_K p3).2]
        rcases g2 with ⟨e, g2, rfl⟩ | ⟨k2, c3, g2, rfl⟩
        · cases g2
        · cases g2
          exact gP_ok (by rw [← List.append_assoc]; exact b) (fr_tr (fr_tr (fr_tr p.2 f) p2.2) g)
    have tail : ∀ x, (∃ e, x = .inl e ∧ r = .inl e) ∨ (∃ k2 c2, x = .inr (k2, c2) ∧ r = .inr (k2, c ++ c2)) → wq (fgR d 3 0 (f_X8_advance (f_X5_signHere s).2)) (fun x_1 => wq (if fhiK (x_1.2.2 9 1) = true then fhlet (f_X3_add (x_1.2.2 9 1) (f_X5_signHere s).1 (0 : Int32) x_1) fun q5 => some q5 else none) (gP T m K P q nl o (out ++ c) x σ)) → wq (fgR d 3 0 (f_X8_advance (f_X5_signHere s).2)) (fun x_1 => wq (if fhiK (x_1.2.2 9 1) = true then fhlet (f_X3_add (x_1.2.2 9 1) (f_X5_signHere s).1 (0 : Int32) x_1) fun q5 => some q5 else none) (gP T m K P q nl o out r σ)) := by
      intro x hx hw
      refine wq_mono hw (fun y hy => wq_mono hy (fun z hz => ?_))
      rcases hx with ⟨e, rfl, rfl⟩ | ⟨k2, c2, rfl, rfl⟩
      · exact gP_bad hz.1 hz.2
      · exact gP_out hz
    have hx : ∃ x, (gif (isg T j 60) (sq (rd T q nl n 3 o (j + 1)) (fun k => gok k [(10, 0)])) (gif (isg T j 62) (sq (rd T q nl n 3 o (j + 1)) (fun k => gok k [(11, 0)])) (gif (isg T j 61) (sq (rd T q nl n 3 o (j + 1)) (fun k => gok k [(12, 0)])) (gbad 1 (fm T j))))) = some x ∧ ((∃ e, x = .inl e ∧ r = .inl e) ∨ (∃ k2 c2, x = .inr (k2, c2) ∧ r = .inr (k2, c ++ c2))) := by
      rcases h2 with ⟨e, h2, h3⟩ | ⟨k2, c2, h2, h3⟩
      · exact ⟨_, h2, Or.inl ⟨e, rfl, h3⟩⟩
      · exact ⟨_, h2, Or.inr ⟨k2, c2, rfl, h3⟩⟩
    obtain ⟨x, hx1, hx2⟩ := hx
    refine tail x hx2 ?_
    rcases gif_some hx1 with ⟨z1, hx1⟩ | ⟨z1, hx1⟩
    · exact go 10 (by decide) (isg_k z1) (by unfold f_X5_signHere; rw [if_pos (by rw [t60]; exact z1)]; rfl) x hx1
    rcases gif_some hx1 with ⟨z2, hx1⟩ | ⟨z2, hx1⟩
    · exact go 11 (by decide) (isg_k z2) (by unfold f_X5_signHere; rw [if_neg (by rw [t60]; exact z1), if_pos (by rw [t62]; exact z2)]; rfl) x hx1
    rcases gif_some hx1 with ⟨z3, hx1⟩ | ⟨z3, hx1⟩
    · exact go 12 (by decide) (isg_k z3) (by unfold f_X5_signHere f_X5_signHere_49; rw [if_neg (by rw [t60]; exact z1), if_neg (by rw [t62]; exact z2), if_pos (by rw [t61]; exact z3)]; rfl) x hx1
    · rw [gbad_some hx1]
      have es : (f_X5_signHere s).2 = f_X8_failHere s := by
        unfold f_X5_signHere f_X5_signHere_49
        rw [if_neg (by rw [t60]; exact z1), if_neg (by rw [t62]; exact z2), if_neg (by rw [t61]; exact z3)]
        rfl
      obtain ⟨a, b⟩ := c_failHere p1.1
      obtain ⟨a2, b2⟩ := cG_bad p1 a b
      rw [es, c_advN a]
      refine wq_mono (cZ_sum (by simp only [glv] at hd; omega) a2) (fun s2 p2 => ?_)
      obtain ⟨g1, g2⟩ := cZ_add p2.1 (f_X5_signHere s).1 0
      rw [if_pos (cH_K p2.1.2), wq_let, wq_some, p2.1.2.1]
      exact gP_bad g1 (fr_tr (fr_tr (fr_tr p.2 b2) p2.2) g2)
end
