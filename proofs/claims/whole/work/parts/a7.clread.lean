/-! THE CLASS READS A PARLOUR'S TEXT -/
def wrn (p : fhPS) : Nat := wsum p.m (p.gs.map Prod.snd)
noncomputable def hlP (p : fhPS) (row : Nat) (c : gC) : Bool := hol p.gs.length (lfR (rowm p.m p.gs.length row)) (lkR (rowm p.m p.gs.length row)) c
noncomputable def alw (p : fhPS) (row : Nat) : Bool := p.ru.all (hlP p row)
noncomputable def tru (p : fhPS) (row : Nat) : Nat := bitsN (p.fa.map (hlP p row)) 0
noncomputable def sFull (T : tT) : (Nat × Nat) ⊕ fhPS := match sText T with
  | .inl e => .inl e
  | .inr p => if alw p (wrn p) = true then .inr p else .inl (6, T.2)
theorem pow_le {m g : Nat} (hm : m ≤ 4) (hg : g ≤ 5) : m ^ g ≤ 1024 := by
  have h1 : m ^ g ≤ 4 ^ g := Nat.pow_le_pow_left hm g
  have h2 : 4 ^ g ≤ 4 ^ 5 := Nat.pow_le_pow_right (by decide) hg
  have : (4 : Nat) ^ 5 = 1024 := by decide
  omega
theorem sOK_wrn {T : tT} {p : fhPS} {k : Nat} (h : sOK T p k) : wrn p < p.m ^ p.gs.length ∧ p.m ^ p.gs.length ≤ 1024 := by
  obtain ⟨o1, o2, o3, o4, o5, o6, -⟩ := h
  refine ⟨?_, pow_le o4 o5⟩
  have := wsum_lt (m := p.m) (l := p.gs.map Prod.snd) (fun x hx => by
    obtain ⟨y, hy, rfl⟩ := List.mem_map.mp hx
    exact (o6 y hy).2.2.2)
  rw [List.length_map] at this
  exact this
theorem sOK_ev {T : tT} {p : fhPS} {k : Nat} (h : sOK T p k) {lf : Nat → Int} {lk : Nat → Int → Int} : evOK p.gs.length lf lk p.ru ∧ evOK p.gs.length lf lk p.fa := by
  obtain ⟨o1, o2, o3, o4, o5, o6, o7, o8, o9, o10, o11, -⟩ := h
  refine ⟨fun c hc => ?_, fun c hc => ?_⟩
  · obtain ⟨nl, j, i, h1, h2⟩ := o11 c (Or.inl hc)
    exact evc_T h2 h1
  · obtain ⟨nl, j, i, h1, h2⟩ := o11 c (Or.inr hc)
    exact evc_T h2 h1
def qD (P t : Nat) : Prop := pD P t ∨ t = 10 ∨ t = 12 ∨ t = 14
theorem fpl_U {D : Nat → Prop} {σ σ' : fhM} {t : Nat} {g : Nat → Int32} (h : fpl D σ σ') (hd : D t) : fpl D σ (fhU σ' t g) := by
  refine ⟨fun a j n => ?_, h.2⟩
  rw [fhU_o (fun q : a = t => n (q ▸ hd)), fhU_2]
  exact h.1 a j n
theorem fpl_X {D : Nat → Prop} {σ σ' : fhM} {hh : Int32} {g : Nat → Int32} (h : fpl D σ σ') (h1 : D 10) (h2 : D 14) : fpl D σ (vsX σ' hh g) := fpl_U (fpl_I h h1) h2
def cFin (T : tT) (P : Nat) (r : (Nat × Nat) ⊕ fhPS) (s : fhM) : Prop := match r with
  | .inl e => cF e s
  | .inr p => s.1 3 9 = 0 ∧ (∃ out, cRp P p out s) ∧ ∃ k, sOK T p k
theorem c_failAtEnd (a : Int32) (σ : fhM) : f_X8_failAtEnd a σ = f_X8_fail a (σ.1 3 3) σ := rfl
/-- parlour, behind close -/
noncomputable def cs_cont (q4 : fhM) : Option (Int32 × fhM) :=
  fhlet (f_X11_noteFault q4) fun q5 =>
  if (q5.1 0 17) = 0 then
    if fhiP (q5.2.2 0 7) = true then
    Option.bind (f_X9_build (q5.2.2 0 7) (fhI (fhR (fhR q5 0 6 (q5.2.2 0 7)) 0 7 (q5.2.2 0 6)) 0 8 (1 : Int32))) fun q6 =>
    if fhiP (q6.2.2 0 6) = true then
    Option.bind (f_X4_begin (q6.1 (q6.2.2 0 6) 14) q6) fun q7 =>
    fhlet (f_X1_forget q7) fun q8 =>
    fhlet (f_X6_wipe q8) fun q9 =>
    if fhiP (q9.2.2 0 6) = true then
    some ((q9.1 (q9.2.2 0 6) 8), q9)
    else none
    else none
    else none
  else
    fhlet (f_X11_refuse (1 : Int32) q5) fun q10 =>
    some (q10.1, q10.2)
theorem cs_46 (σ : fhM) : f_X11_parlour_46 σ = if fhiP (σ.2.2 0 7) = true then Option.bind (f_X7_close (σ.2.2 0 7) σ) cs_cont else none := rfl
section
variable {T : tT} {m P : Nat}
theorem cs_finN {e : Nat × Nat} {σ : fhM} (h : cF e σ) : wq (f_X7_close P σ) (fun r => cF e r ∧ r = σ) := by
  have h9 := cF_n h
  have e15 : f_X7_close_15 P σ = some σ := by
    unfold f_X7_close_15
    rw [if_neg h9]
  unfold f_X7_close
  rw [e15]
  split
  · rw [wq_let, c_failAtEnd, c_failN h, e15, wq_some]
    exact ⟨h, rfl⟩
  · rw [wq_some]
    exact ⟨h, rfl⟩
theorem cs_fin (hP : fhiP P = true) {k : Nat} {p : fhPS} {σ : fhM} (h : cSt T m P p k σ) : wq (f_X7_close P σ) (fun r => cFin T P (if alw p (wrn p) = true then .inr p else .inl (6, T.2)) r ∧ fpl (qD P) σ r) := by
  obtain ⟨hc, hk, ho, out, hr, hl⟩ := h
  have hp := ph_P hP
  have ho' := ho
  obtain ⟨o1, o2, o3, o4, o5, o6, o7, o8, o9, o10, o11, o12, o13⟩ := ho'
  obtain ⟨w1, w2⟩ := sOK_wrn ho
  have hlen := nl_len p
  unfold f_X7_close
  rw [hr.1, if_neg (nI_ne0 (by omega) (by omega))]
  unfold f_X7_close_15
  rw [if_pos hc.2.2.2.1, hr.2.1, hr.2.2.1.1, hlen, hr.2.2.2.2.2.2.1, wq_bind]
  refine wq_mono (c_fill ⟨o3, o4⟩ o5 (by show wrn p < 2 ^ 31; omega) σ) (fun s z => ?_)
  obtain ⟨t, rfl, hlv⟩ := z
  have hd : cdF P p (fhU σ 12 t) := cdF_fr (cdF_of hP hr o8 o9) (fun j => fhU_o (by omega)) (fun t k h1 h2 => fcG_U (by omega))
  rw [wq_bind]
  refine wq_mono (c_rulesHold hP o5 hlv hd o8 (sOK_ev ho).1) (fun r z => ?_)
  obtain ⟨r1, r2⟩ := r
  obtain ⟨z1, hh, gg, z2⟩ := z
  dsimp only at z1 z2 ⊢
  subst z2
  have fs : fpl (qD P) σ (vsX (fhU σ 12 t) hh gg) := fpl_X (fpl_U fpl_rf (Or.inr (Or.inr (Or.inl rfl)))) (Or.inr (Or.inl rfl)) (Or.inr (Or.inr (Or.inr rfl)))
  have e : ∀ a j, a ≠ 10 → a ≠ 12 → a ≠ 14 → (vsX (fhU σ 12 t) hh gg).1 a j = σ.1 a j := fun a j h1 h2 h3 => by rw [vsX_o h3 h1, fhU_o h2]
  have hcp : cP T m k (vsX (fhU σ 12 t) hh gg) := cP_fr hc (fun j => e _ _ (by decide) (by decide) (by decide)) (fun j => e _ _ (by decide) (by decide) (by decide))
  rw [show r1 = alw p (wrn p) from z1]
  by_cases q : alw p (wrn p) = true
  · rw [if_pos q, if_pos q, wq_some]
    exact ⟨⟨hcp.2.2.2.1, ⟨out, cRp_fr hr (fun t j h1 h2 => e _ _ (by omega) (by omega) (by omega))⟩, k, ho⟩, fs⟩
  · rw [if_neg q, if_neg q, wq_let, c_failAtEnd, hcp.2.2.1]
    obtain ⟨a, b⟩ := c_fail (e := (6, T.2)) hcp ⟨Nat.le_of_ble_eq_true rfl, Nat.le_of_ble_eq_true rfl⟩
    have a : cF (6, T.2) (f_X8_fail (6 : Int32) (nI T.2) (vsX (fhU σ 12 t) hh gg)) := a
    rw [wq_some]
    exact ⟨a, fpl_tr fs (fpl_r b (fun _ _ z => Or.inl (cDf_pD z)))⟩
theorem stm0_n {k : Nat} {x : Nat × fhPS} (h : stm0 T ps0 k = .inr x) : x.2.n = 1 := by
  unfold stm0 at h
  rcases gif_inr h with h | h
  · rcases gif_inr h with h | h
    · exact semi_n h
    · cases h
  · cases h
theorem cTs_0 (t : Nat) (out : gC) (σ : fhM) : cTs t [] out σ := by
  intro r c hc
  cases hc
theorem cN_0 {P : Nat} {σ : fhM} (h : σ.1 P 10 = 0) : cN P [] σ := by
  refine ⟨h, Nat.zero_le _, ?_⟩
  intro g l hg
  cases hg
theorem cS_0 {K : Nat} {σ : fhM} (h : σ.1 K 1 = 0) : cS K [] σ := by
  refine ⟨h, Nat.zero_le _, ?_⟩
  intro i c hc
  cases hc
theorem cs_forget (hP : fhiP P = true) (σ : fhM) : cRp P ps0 [] (f_X7_forget P σ) ∧ fpl (pD P) σ (f_X7_forget P σ) := by
  have hp := ph_P hP
  have hN : fcL (P + 4) = 5 := by rcases hp with rfl | rfl <;> rfl
  unfold f_X7_forget
  rw [fcW_U hN]
  refine ⟨⟨?_, ?_, cN_0 ?_, ?_, ?_, ?_, ?_, ?_, fun a ha => ?_, cTs_0 _ _ _, cTs_0 _ _ _, cS_0 ?_⟩, ?_⟩
  · rw [fhU_o (by omega)]; simp (disch := omega) only [fhI_e, fhI_o, fhI_s]; rfl
  · rw [fhU_o (by omega)]; simp (disch := omega) only [fhI_e, fhI_o, fhI_s]; rfl
  · rw [fhU_o (by omega)]; simp (disch := omega) only [fhI_e, fhI_o, fhI_s]
  · rw [fhU_o (by omega)]; simp (disch := omega) only [fhI_e, fhI_o, fhI_s]; rfl
  · rw [fhU_o (by omega)]; simp (disch := omega) only [fhI_e, fhI_o, fhI_s]; rfl
  · rw [fhU_o (by omega)]; simp (disch := omega) only [fhI_e, fhI_o, fhI_s]; rfl
  · rw [fhU_o (by omega)]; simp (disch := omega) only [fhI_e, fhI_o, fhI_s]; rfl
  · rw [fhU_o (by omega)]; simp (disch := omega) only [fhI_e, fhI_o, fhI_s]; rfl
  · rw [show P + 5 = P + 4 + 1 by omega, fhU_e, if_pos ha]; rfl
  · rw [fhU_o (by omega)]; simp (disch := omega) only [fhI_e, fhI_o, fhI_s]
  · refine fpl_U (fpl_I (fpl_I (fpl_I (fpl_I (fpl_I (fpl_I (fpl_I (fpl_I (fpl_I fpl_rf ?_) ?_) ?_) ?_) ?_) ?_) ?_) ?_) ?_) ?_
    all_goals (unfold pD; omega)
theorem cs_read (hT : tOK T) (hP : fhiP P = true) {σ : fhM} (r7 : σ.2.2 0 7 = P) (hx : cX T σ) {Q : Int32 × fhM → Prop} (hQ : ∀ s, cFin T P (sFull T) s → fpl (qD P) σ s → wq (cs_cont s) Q) : wq (Option.bind (f_X7_open P 1 (nI T.2) σ) fun q2 => fhlp (fun x => f_X11_parlour_17 x.1 x.2) ((0 : Int32), q2)) Q := by
  have hp := ph_P hP
  obtain ⟨m, hm1, hm2, hm3⟩ := kd_end T
  have hm : tend T m := ⟨hm1, hm2, hm3⟩
  have h46 : ∀ s, s.2.2 0 7 = P → wq (f_X7_close P s) (fun r => cFin T P (sFull T) r ∧ fpl (qD P) s r) → fpl (qD P) σ s → wq (f_X11_parlour_46 s) Q := by
    intro s h7 h1 h2
    rw [cs_46, h7, if_pos hP, wq_bind]
    exact wq_mono h1 (fun r z => hQ r z.1 (fpl_tr h2 z.2))
  rw [wq_bind]
  unfold f_X7_open
  obtain ⟨hr0, f0⟩ := cs_forget hP σ
  rw [wq_let]
  have r70 : (f_X7_forget P σ).2.2 0 7 = P := by rw [(f0.1 0 7 (by unfold pD; omega)).2]; exact r7
  have hx0 : cX T (f_X7_forget P σ) := fun i hi => by
    rw [(f0.1 2 i (by unfold pD; omega)).1]
    exact hx i hi
  generalize f_X7_forget P σ = σ0 at *
  rw [wq_bind]
  refine wq_mono (c_open hT hm hx0) (fun s z => ?_)
  rw [wq_some]
  obtain ⟨hc, -, -, f1⟩ := z
  have hr : cRp P ps0 [] s := cRp_fr hr0 (fun t j h1 h2 => f1.2 t j (by unfold cD; omega))
  have f2 : fpl (pD P) σ s := fpl_tr f0 (fpl_r f1 (fun t j z => by unfold cD at z; unfold pD; omega))
  have toq : ∀ s2 : fhM, fpl (pD P) s s2 → fpl (qD P) σ s2 := fun s2 z => fpl_mo (fpl_tr f2 z) (fun t h => Or.inl h)
  have s7 : s.2.2 0 7 = P := by rw [(f2.1 0 7 (by unfold pD; omega)).2]; exact r7
  refine wq_step ?_
  (try dsimp only)
  (try unfold f_X11_parlour_17)
  (try dsimp only)
  rw [if_neg (show ¬ (60 : Int32) < 0 by decide)]
  by_cases q : kd T 0 = 0
  · have hs : sFull T = .inl (1, T.2) := by
      have h1 : ¬ isw T 0 0 := fun z => isw_k z q
      have h2 : fm T 0 = T.2 := kd_0.mp q
      unfold sFull sText stm0
      rw [gif_f h1, h2]
    rw [if_neg (by rw [c_going hc]; exact fun z => z q), wq_map]
    refine wq_mono (h46 s s7 ?_ (toq s fpl_rf)) (fun s z => z)
    rw [hs]
    unfold f_X7_close
    rw [if_pos (show s.1 P 8 = 0 from hr.1), wq_let, c_failAtEnd, hc.2.2.1]
    obtain ⟨a, b⟩ := c_fail (e := (1, T.2)) hc ⟨Nat.le_of_ble_eq_true rfl, Nat.le_of_ble_eq_true rfl⟩
    have a : cF (1, T.2) (f_X8_fail (1 : Int32) (nI T.2) s) := a
    unfold f_X7_close_15
    rw [if_neg (cF_n a), wq_some]
    exact ⟨a, fpl_r b (fun _ _ z => Or.inl (cDf_pD z))⟩
  · rw [if_pos (by rw [c_going hc]; exact q), s7, if_pos hP, wq_bind]
    refine wq_mono (cs_stm0 hT hm hP hc (Nat.zero_le _) (p := ps0) ⟨rfl, rfl, rfl, rfl, rfl, fun _ => rfl⟩ hr) (fun s2 z => ?_)
    rw [wq_some, fhK_l]
    obtain ⟨z1, z2⟩ := z
    have h07 : ∀ s3, fpl (pD P) s s3 → s3.2.2 0 7 = P := fun s3 f => by rw [(f.1 0 7 (by unfold pD; omega)).2]; exact s7
    have finN : ∀ e s3, sFull T = .inl e → cF e s3 → fpl (pD P) s s3 → wq (f_X11_parlour_46 s3) Q := by
      intro e s3 h1 h2 h3
      refine h46 s3 (h07 s3 h3) ?_ (toq _ h3)
      rw [h1]
      exact wq_mono (cs_finN h2) (fun r y => ⟨y.1, by rw [y.2]; exact fpl_rf⟩)
    rw [ph_0, nI_1]
    cases hx1 : stm0 T ps0 0 with
    | inl e =>
      rw [hx1] at z1
      have z1 : cF e s2 := z1
      have hs : sFull T = .inl e := by unfold sFull sText; rw [hx1]
      exact cs_loopN z1 1 (by decide) (finN e s2 hs z1 z2)
    | inr x =>
      rw [hx1] at z1
      have z1 : cSt T m P x.2 x.1 s2 := z1
      have hn := stm0_n hx1
      have := cs_loop (Q := Q) hT hm hP 60 x.1 x.2 s2 z1 (h07 s2 z2) (by omega) (fun s3 h3 f3 => ?_)
      · rw [hn] at this
        exact this
      · have hst : sText T = sAll T 60 x.2 x.1 := by unfold sText; rw [hx1]
        cases hx2 : sAll T 60 x.2 x.1 with
        | inl e =>
          rw [hx2] at h3
          exact finN e s3 (by unfold sFull; rw [hst, hx2]) h3 (fpl_tr z2 f3)
        | inr p =>
          rw [hx2] at h3
          obtain ⟨k, h4, h5⟩ := h3
          have hs : sFull T = if alw p (wrn p) = true then .inr p else .inl (6, T.2) := by unfold sFull; rw [hst, hx2]
          refine h46 s3 (h07 s3 (fpl_tr z2 f3)) ?_ (toq _ (fpl_tr z2 f3))
          rw [hs]
          exact cs_fin hP h4
end
