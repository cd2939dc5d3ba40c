/-! THE PAIRS: what is done, with any argument -/
section
variable {n : Nat} {A : aS} {σ τ : fhM}
theorem AV_psh {p : fhPS} (hp : A.p = some p) (hv : AV n A) {G2 : gG} (hg : gV (wOf p) G2) (hH : ∃ t, G2.H = A.G.H ++ t ∧ t.length ≤ 20) : AV (n + 1) (aGU A G2 (psh A.G A.S)) := by
  obtain ⟨a1, a2, a3, a4, a5, a6, a7, a8⟩ := hv
  rw [hp] at a2
  obtain ⟨b1, b2, b3⟩ := a2
  refine ⟨a1, ?_, ⟨hH, (psh_chn a3).2⟩, psh_len, ?_, a6, a7, a8⟩
  · show AV0 A.p G2 (psh A.G A.S)
    rw [hp]
    refine ⟨b1, hg, fun G hG => ?_⟩
    rcases List.mem_cons.mp hG with e | e
    · rw [e]
      exact b2
    · exact b3 G (List.mem_of_mem_take e)
  · obtain ⟨t, e, l⟩ := hH
    show G2.H.length ≤ 20 * (n + 1)
    rw [e, List.length_append]
    omega
theorem gV_k {W : gW} {G : gG} {f : Nat → Nat} {mk rd : Nat} {H : List kE} (h : gV W G) (hr : rd ≤ 999) : gV W (rd, G.w, kpt (alk f mk G.w) G.L, H) := by
  obtain ⟨h1, h2, h3⟩ := h
  rw [rl_mem] at h1
  refine ⟨rl_mem.mpr ⟨h1.1, ?_⟩, fun r hr => h2 r ?_, hr⟩
  · show (decide (f G.w &&& mk = f G.w &&& mk) && G.L G.w) = true
    rw [decide_eq_true rfl, h1.2]
    rfl
  · have hr : (decide (f r &&& mk = f G.w &&& mk) && G.L r) = true := hr
    rw [Bool.and_eq_true] at hr
    exact hr.2
theorem gV_A {p : fhPS} (hp : A.p = some p) (hv : AV n A) : gV (wOf p) A.G ∧ (∃ T k, sOK T p k) := by
  have h0 := hv.2.1
  rw [hp] at h0
  exact ⟨h0.2.1, h0.1⟩
theorem p_of_g (hc : CS A σ) (hm : MS A τ) (h : 0 < (aW A.p).g ∨ 0 < (aW A.p).F) : ∃ p, A.p = some p ∧ ¬ σ.1 0 8 = 0 ∧ ¬ τ.1 0 47 = 0 := by
  rcases told hc hm with ⟨hp, -, -⟩ | h2
  · rw [hp] at h
    rcases h with h | h
    · exact absurd h (Nat.lt_irrefl 0)
    · exact absurd h (Nat.lt_irrefl 0)
  · exact h2
theorem len1 {α : Type} (x : α) (H : List α) : ∃ t, H ++ [x] = H ++ t ∧ t.length ≤ 20 := ⟨[x], rfl, by show 1 ≤ 20; decide⟩
theorem p_says (hn : n ≤ 1000) (hc : CS A σ) (hm : MS A τ) (hv : AV n A) (v : Int32) : okQ n (f_X11_says v σ) (f_X12_says v τ) := by
  have hW := aW_ok hv
  have hg5 := hW.1
  have hmt := hm.1.2.2.1.1
  have hH := hv.2.2.2.2.1
  by_cases c : inB v (aW A.p).g
  · obtain ⟨ev, hi⟩ := inB_e c
    obtain ⟨p, hp, -, -⟩ := p_of_g hc hm (Or.inl (Nat.lt_of_le_of_lt (Nat.zero_le _) hi))
    obtain ⟨hgv, -⟩ := gV_A hp hv
    obtain ⟨g1, g2, g3, g4, g5⟩ := AV_G hv
    have hw := AV_w hv hp
    have ea : aW A.p = wOf p := by rw [hp]; rfl
    have e1 := c_says hW hc.1.2.2.1 hv.2.2.1 hw (by omega) hi
    have e2 := m_says hW hm.1.2.2.1 hw g4 hi
    rw [← ev] at e1 e2
    rw [ea] at e1 e2
    exact okQ_w (P := fun _ => True) (Q := fun _ => True) (wq_mono e1 (fun r h => ⟨h.1, CS_act hp hc h.2.2.1 h.2.1 h.2.2.2⟩)) (wq_mono e2 (fun r h => ⟨h.1, MS_act hp hm h.2.2 h.2.1⟩)) (AV_psh hp hv (gV_k hgv hgv.2.2) (len1 _ _))
  · refine okQ_r hc hm hv (k := 2) (v := (-1 : Int32)) (by decide) ?_ ?_
    · unfold f_X11_says fhlet
      rw [if_neg (by rw [c_isG v (by omega) hc.1.2.2.1.1.2.1]; exact c), show (2 : Int32) = nI 2 from rfl, c_refuse (by decide)]
    · unfold f_X12_says
      rw [if_neg (by rw [m_isG v (by omega) hmt.1.2.1]; exact c), show (2 : Int32) = nI 2 from rfl, m_refuses (by decide)]
      rfl
theorem p_tell (hn : n ≤ 1000) (hc : CS A σ) (hm : MS A τ) (hv : AV n A) (v : Int32) : okQ n (f_X11_tell v σ) (f_X12_tell v τ) := by
  have hW := aW_ok hv
  have hF8 := hW.2.2.1
  have hmt := hm.1.2.2.1.1
  have hH := hv.2.2.2.2.1
  by_cases c : inB v (aW A.p).F
  · obtain ⟨ev, hi⟩ := inB_e c
    obtain ⟨p, hp, -, -⟩ := p_of_g hc hm (Or.inr (Nat.lt_of_le_of_lt (Nat.zero_le _) hi))
    obtain ⟨hgv, -⟩ := gV_A hp hv
    obtain ⟨g1, g2, g3, g4, g5⟩ := AV_G hv
    have hw := AV_w hv hp
    have ea : aW A.p = wOf p := by rw [hp]; rfl
    have e1 := c_tell hW hc.1.2.2.1 hv.2.2.1 hw g3 (by omega) hi
    have e2 := m_tell hW hm.1.2.2.1 hw g4 hi
    rw [← ev] at e1 e2
    rw [ea] at e1 e2
    exact okQ_w (P := fun _ => True) (Q := fun _ => True) (wq_mono e1 (fun r h => ⟨h.1, CS_act hp hc h.2.2.1 h.2.1 h.2.2.2⟩)) (wq_mono e2 (fun r h => ⟨h.1, MS_act hp hm h.2.2 h.2.1⟩)) (AV_psh hp hv (gV_k hgv hgv.2.2) (len1 _ _))
  · refine okQ_r hc hm hv (k := 2) (v := (-1 : Int32)) (by decide) ?_ ?_
    · unfold f_X11_tell fhlet
      rw [if_neg (by rw [c_isFt v (by omega) hc.1.2.2.1.1.2.2.1]; exact c), show (2 : Int32) = nI 2 from rfl, c_refuse (by decide)]
    · unfold f_X12_tell
      rw [if_neg (by rw [m_isFt v (by omega) hmt.2.1]; exact c), show (2 : Int32) = nI 2 from rfl, m_refuses (by decide)]
      rfl
theorem p_round (hn : n ≤ 1000) (hc : CS A σ) (hm : MS A τ) (hv : AV n A) : okQ n (f_X11_round σ) (f_X12_round τ) := by
  have hW := aW_ok hv
  have hH := hv.2.2.2.2.1
  have bad : f_X11_round σ = f_X11_round_20 σ → f_X12_round τ = f_X12_round_19 τ → okQ n (f_X11_round σ) (f_X12_round τ) := fun h1 h2 => by
    rw [h1, h2]
    refine okQ_r hc hm hv (k := 3) (v := (-1 : Int32)) (by decide) ?_ ?_
    · unfold f_X11_round_20 fhlet
      rw [show (3 : Int32) = nI 3 from rfl, c_refuse (by decide)]
    · unfold f_X12_round_19
      rw [show (3 : Int32) = nI 3 from rfl, m_refuses (by decide)]
      rfl
  rcases told hc hm with ⟨-, h8, h47⟩ | ⟨p, hp, h8, h47⟩
  · exact bad (by unfold f_X11_round; rw [if_pos h8]) (by unfold f_X12_round; rw [if_pos h47])
  · obtain ⟨hgv, -⟩ := gV_A hp hv
    obtain ⟨g1, g2, g3, g4, g5⟩ := AV_G hv
    have hw := AV_w hv hp
    have ea : aW A.p = wOf p := by rw [hp]; rfl
    by_cases c : A.G.rd < 999
    · have e1 := c_round hW hc.1.2.2.1 hv.2.2.1 hw (by omega) h8 c
      have e2 := m_roundA hW hm.1.2.2.1 hw g4 h47 c
      rw [ea] at e1 e2
      exact okQ_w (P := fun _ => True) (Q := fun _ => True) (wq_mono e1 (fun r h => ⟨h.1, CS_act hp hc h.2.2.1 h.2.1 h.2.2.2⟩)) (wq_mono e2 (fun r h => ⟨h.1, MS_act hp hm h.2.2 h.2.1⟩)) (AV_psh hp hv (gV_k hgv (by omega)) (len1 _ _))
    · have er : A.G.rd = 999 := by omega
      refine bad ?_ ?_
      · unfold f_X11_round
        rw [if_neg h8, hc.1.2.2.1.2.2.1.2.2.1, er, if_neg (by decide)]
      · unfold f_X12_round
        rw [if_neg h47, hm.1.2.2.1.2.1.1, er, if_pos (show nI 999 = 999 from rfl)]
theorem p_undo (hc : CS A σ) (hm : MS A τ) (hv : AV n A) : okQ n (f_X11_undo σ) (f_X12_undo τ) := by
  have hW := aW_ok hv
  cases hS : A.S with
  | nil =>
    obtain ⟨-, -, -, -, q, s3, -, s4, -, -⟩ := hc.1.2.2.1
    obtain ⟨-, -, ⟨x, -, -, m71, -, -⟩, -⟩ := hm.1.2.2.1
    rw [hS] at s4 m71
    refine okQ_r hc hm hv (k := 4) (v := false) (by decide) ?_ ?_
    · unfold f_X11_undo f_X6_restore fhlet
      rw [if_pos (show σ.1 93 4 = 0 from s4)]
      rw [show ∀ f : Bool × fhM → Option (Bool × fhM), Option.bind (some (false, σ)) f = f (false, σ) from fun _ => rfl]
      (try dsimp only)
      rw [if_neg (by decide), show (4 : Int32) = nI 4 from rfl, c_refuse (by decide)]
    · unfold f_X12_undo
      rw [if_pos (show τ.1 0 71 = 0 from m71)]
  | cons G1 S =>
    rcases told hc hm with ⟨hp, -, -⟩ | ⟨p, hp, -, -⟩
    · have h0 := hv.2.1
      rw [hp, hS] at h0
      exact absurd h0.2 (by intro z; cases z)
    · obtain ⟨a1, a2, a3, a4, a5, a6⟩ := hv
      have ea : aW A.p = wOf p := by rw [hp]; rfl
      have hgc := hc.1.2.2.1
      have hgm := hm.1.2.2.1
      rw [hS] at hgc hgm a3
      have e1 := c_undo hW hgc a3
      have e2 := m_undo hgm
      rw [ea] at e1 e2
      refine okQ_w (P := fun _ => True) (Q := fun _ => True) (wq_mono e1 (fun r h => ⟨h.1, CS_act hp hc h.2.2.1 h.2.1 h.2.2.2⟩)) (wq_mono e2 (fun r h => ⟨h.1, MS_act hp hm h.2.2 h.2.1⟩)) ?_
      rw [hp, hS] at a2
      obtain ⟨b1, b2, b3⟩ := a2
      obtain ⟨⟨t, ht, hl⟩, c2⟩ := a3
      refine ⟨a1, ?_, c2, ?_, ?_, a6⟩
      · show AV0 A.p G1 S
        rw [hp]
        exact ⟨b1, b3 G1 List.mem_cons_self, fun G hG => b3 G (List.mem_cons_of_mem _ hG)⟩
      · show S.length ≤ 20
        rw [hS, List.length_cons] at a4
        omega
      · show G1.H.length ≤ 20 * (n + 1)
        rw [ht, List.length_append] at a5
        omega
theorem wm_no {v w : Int32} {m : Nat} (hm : m < 2 ^ 31) {σ : fhM} (h5 : σ.1 39 5 = nI m) (hw : ¬ inB w m) (x : Int32) : f_X9_withMark x v w σ = -1 := by
  unfold f_X9_withMark
  by_cases a : w.toInt < 0
  · rw [if_pos (by rw [lt0_P]; exact a)]
  · rw [if_neg (by rw [lt0_P]; exact a), h5, if_neg (by rw [lt_nP w hm]; exact fun z => hw ⟨by omega, z⟩)]
theorem p_wear (hc : CS A σ) (hm : MS A τ) (hv : AV n A) (v w : Int32) : okQ n (f_X11_wear v w σ) (f_X12_wear v w τ) := by
  have hW := aW_ok hv
  have hg5 := hW.1
  have hm4 := hW.2.2.2.1
  have hmt := hm.1.2.2.1.1
  have bad : f_X11_wear v w σ = f_X11_wear_56 σ → f_X12_wear v w τ = f_X12_wear_54 τ → okQ n (f_X11_wear v w σ) (f_X12_wear v w τ) := fun h1 h2 => by
    rw [h1, h2]
    refine okQ_r hc hm hv (k := 2) (v := false) (by decide) ?_ ?_
    · unfold f_X11_wear_56 fhlet
      rw [show (2 : Int32) = nI 2 from rfl, c_refuse (by decide)]
    · unfold f_X12_wear_54
      rw [show (2 : Int32) = nI 2 from rfl, m_refused (by decide)]
      rfl
  have hG : (f_X11_isGuest v σ = true) = inB v (aW A.p).g := c_isG v (by omega) hc.1.2.2.1.1.2.1
  have hG2 : (f_X12_isGuest v.toInt64 τ = true) = inB v (aW A.p).g := m_isG v (by omega) hmt.1.2.1
  by_cases c : inB v (aW A.p).g
  · obtain ⟨ev, hi⟩ := inB_e c
    obtain ⟨p, hp, -, -⟩ := p_of_g hc hm (Or.inl (Nat.lt_of_le_of_lt (Nat.zero_le _) hi))
    obtain ⟨hgv, T', k, ho⟩ := gV_A hp hv
    have hw := AV_w hv hp
    have ea : aW A.p = wOf p := by rw [hp]; rfl
    obtain ⟨hNm, hm2⟩ := wOf_N ho
    by_cases d : inB w (aW A.p).m
    · obtain ⟨ew, hj⟩ := inB_e d
      rw [← ea] at hNm
      have e1 := c_wear hW hNm hc.1.2.2.1 hv.2.2.1 hw hi hj
      have e2 := m_wear hW hNm hm.1.2.2.1 hw hi hj
      rw [← ev, ← ew] at e1 e2
      by_cases o : wrO (aW A.p) A.G.w v.toInt.toNat w.toInt.toNat
      · have e1 := e1.1 o
        have e2 := e2.1 o
        have hr : rowW (aW A.p).m A.G.w v.toInt.toNat w.toInt.toNat ∈ rl (aW A.p).N (aW A.p).al := rl_mem.mpr ⟨by rw [hNm]; exact rowW_lt (by rw [← hNm]; exact rl_lt _ hw) hi hj, o.2⟩
        rw [ea] at e1 e2 hr
        exact okQ_w (P := fun _ => True) (Q := fun _ => True) (wq_mono e1 (fun r h => ⟨h.1, CS_act hp hc h.2.2.1 h.2.1 h.2.2.2⟩)) (wq_mono e2 (fun r h => ⟨h.1, MS_act hp hm h.2.2 h.2.1⟩)) (AV_psh hp hv ⟨hr, fun r h => h, Nat.zero_le _⟩ ⟨[], (List.append_nil _).symm, Nat.zero_le _⟩)
      · refine bad (e1.2 o) ((e2.2 o).trans ?_)
        unfold f_X12_wear_54
        rw [show (2 : Int32) = nI 2 from rfl, m_refused (by decide)]
        rfl
    · refine bad ?_ ?_
      · unfold f_X11_wear
        rw [if_pos (by rw [hG]; exact c), wm_no (by omega) hc.1.2.2.1.1.1 d]
        unfold f_X11_wear_28
        rw [if_pos rfl]
      · unfold f_X12_wear f_X12_markMany
        rw [if_pos (by rw [hG2]; exact c), hmt.1.1, if_neg (c := f_X12_isIn w.toInt64 (0 : Int64) (Int32.toInt64 (nI (aW A.p).m - (1 : Int32))) τ = true) (by rw [m_inB w (by omega)]; exact d)]
  · refine bad ?_ ?_
    · unfold f_X11_wear
      rw [if_neg (by rw [hG]; exact c)]
      unfold f_X11_wear_28
      rw [if_pos rfl]
    · unfold f_X12_wear
      rw [if_neg (by rw [hG2]; exact c)]
end
