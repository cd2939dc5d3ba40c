/-! THE REFERENCE READS A PARLOUR'S TEXT -/
def kD (t j : Nat) : Prop := t = 36 ∨ t = 76 ∨ t = 78 ∨ (t = 0 ∧ (j = 50 ∨ j = 99 ∨ j = 105))
theorem frl_U {D : Nat → Nat → Prop} {σ σ' : fhM} {t : Nat} {g : Nat → Int32} (h : frl D σ σ') (hd : ∀ j, D t j) : frl D σ (fhU σ' t g) := by
  refine ⟨fun a j n => ?_, h.2⟩
  rw [fhU_o (fun q : a = t => n (q ▸ hd j)), fhU_2]
  exact h.1 a j n
theorem frl_V {D : Nat → Nat → Prop} {σ σ' : fhM} {t : Nat} {g : Nat → Int64} (h : frl D σ σ') (hd : ∀ j, D t j) : frl D σ (fhV σ' t g) := by
  refine ⟨fun a j n => ?_, h.2⟩
  rw [fhV_1, fhV_o (fun q : a = t => n (q ▸ hd j))]
  exact h.1 a j n
theorem frl_st {D : Nat → Nat → Prop} {σ σ' : fhM} {n : Nat} {g : Nat → Int64} (h : frl D σ σ') (h1 : D 0 105) (h2 : ∀ j, D 78 j) : frl D σ (mst σ' n g) := frl_V (frl_I h h1) h2
theorem mRp_k {p : fhPS} {σ s : fhM} (h : mRp p σ) (hf : frl kD σ s) : mRp p s := by
  obtain ⟨h1, h2, h3, h4, h5, h6, h7, h8, h9, h10, h11⟩ := h
  have e : ∀ t j, (29 ≤ t ∧ t ≤ 35) ∨ (t = 0 ∧ (j = 45 ∨ j = 46)) → s.1 t j = σ.1 t j ∧ s.2.1 t j = σ.2.1 t j := fun t j ht => hf.1 t j (by unfold kD; omega)
  refine ⟨by rw [(e 0 46 (by omega)).1]; exact h1, by rw [(e 29 0 (by omega)).1]; exact h2, ⟨by rw [(e 29 1 (by omega)).1]; exact h3.1, h3.2.1, fun g l hg => ?_⟩, by rw [(e 29 2 (by omega)).1]; exact h4, by rw [(e 29 3 (by omega)).1]; exact h5, by rw [(e 29 4 (by omega)).1]; exact h6, fun g x hx => by rw [(e 31 g (by omega)).1]; exact h7 g x hx, fun a ha => by rw [(e 32 a (by omega)).1]; exact h8 a ha,
    mTs_fr h9 (fun j => (e 33 j (by omega)).1) (fun j => (e 34 j (by omega)).1) (fun j _ => (e 35 j (by omega)).1), mTs_fr h10 (fun j => (e 33 j (by omega)).1) (fun j => (e 34 j (by omega)).1) (fun j _ => (e 35 j (by omega)).1), by rw [(e 0 45 (by omega)).1]; exact h11⟩
  rw [(e 30 g (by omega)).2]
  exact h3.2.2 g l hg
theorem mP_k {T : tT} {k : Nat} {σ s : fhM} (h : mP T k σ) (hf : frl kD σ s) : mP T k s := mP_fr h (fun i _ => (hf.1 _ _ (by unfold kD; omega)).1) (hf.1 _ _ (by unfold kD; omega)).1 (hf.1 _ _ (by unfold kD; omega)).1 (hf.1 _ _ (by unfold kD; omega)).1 (hf.1 _ _ (by unfold kD; omega)).1 (hf.1 _ _ (by unfold kD; omega)).1
theorem mW_k {σ s : fhM} (h : mW σ) (hf : frl kD σ s) : mW s := mW_fr h (fun v i hv hi => by
  have hv2 : v ≠ 36 ∧ v ≠ 76 ∧ v ≠ 78 := by
    refine ⟨?_, ?_, ?_⟩ <;> (rintro rfl; exact Nat.not_lt_zero _ hi)
  exact (hf.1 v i (by unfold kD; omega)).1)
/-- a test at a row, by the reference -/
theorem m_test {p : fhPS} {T : tT} {k : Nat} (ho : sOK T p k) {b n r : Nat} {cs : List gC} {c : gC} (hT : T.2 ≤ 1600) {σ : fhM} (h : mTs b cs n σ) (hc : cs[r]? = some c) (hb : b + r < 12) (hn : n ≤ 1600) (hev : ∀ lf lk, evOK p.gs.length lf lk cs) {row : Nat} (hrow : row < 2 ^ 31) {Q : Int64 × fhM → Prop} (hQ : ∀ s, frl kD σ s → Q (lI (evc false p.gs.length (lfR (rowm p.m p.gs.length row)) (lkR (rowm p.m p.gs.length row)) c), s)) (i0 : Nat) :
    wq (f_X12_loadsTest (nI (b + r)) σ) (fun q1 => frl kD σ q1 ∧ wq (f_X12_laysRow (nI row) (nI p.m) (nI p.gs.length) q1) (fun q3 => wq (f_X12_qTold (nI i0) q3) Q)) := by
  obtain ⟨o1, o2, o3, o4, o5, o6, o7, o8, o9, o10, o11, o12, o13⟩ := ho
  have hlen : c.length ≤ n := by
    obtain ⟨a, h1, h2, h3, h4⟩ := h r c hc
    omega
  refine wq_mono (m_loads h hc hb hn) (fun s z => ?_)
  obtain ⟨g, rfl, hS⟩ := z
  have f1 : frl kD σ (fhU (fhI σ 0 99 (nI c.length)) 76 g) := frl_U (frl_I frl_rf (by unfold kD; omega)) (fun j => by unfold kD; omega)
  refine ⟨f1, wq_mono (m_laysRow ⟨o3, o4⟩ o5 hrow _) (fun s z => ?_)⟩
  obtain ⟨t, rfl, ht⟩ := z
  have f2 := frl_U (g := t) (t := 36) (frl_I (t := 0) (k := 50) (x := nI p.gs.length) f1 (by unfold kD; omega)) (fun j => by unfold kD; omega)
  have hrw : rwM p.m p.gs.length row (fhU (fhI (fhU (fhI σ 0 99 (nI c.length)) 76 g) 0 50 (nI p.gs.length)) 36 t) := ⟨by rw [fhU_o (by decide), fhI_e], fun i hi => by rw [fhU_e]; exact ht i hi⟩
  have hS2 : rS c (fhU (fhI (fhU (fhI σ 0 99 (nI c.length)) 76 g) 0 50 (nI p.gs.length)) 36 t) := rS_fr hS (by rw [fhU_o (by decide), fhI_s (by decide)]) (fun i => by rw [fhU_o (by decide), fhI_o (by decide)])
  have hrun := (hev (lfR (rowm p.m p.gs.length row)) (lkR (rowm p.m p.gs.length row)) c (List.mem_of_getElem? hc)).2
  refine wq_mono (m_told o5 (m_leaves ⟨o3, o4⟩ o5 hrw i0) hS2 (by omega) hrun) (fun r z => ?_)
  obtain ⟨r1, r2⟩ := r
  obtain ⟨z1, z2, gg, z3⟩ := z
  dsimp only at z1 z3
  subst z1
  subst z3
  exact hQ _ (frl_st f2 (by unfold kD; omega) (fun j => by unfold kD; omega))
theorem hol_1 {v : Int} (h : bt v) : (lg_cmp (lI v) (1 : Int64) = 0) = (decide (v = 1) = true) := by
  rw [lI_1, lg_cmp_eq, lI_eqP (by unfold bt at h; omega) (by unfold bt at h; omega) (by omega) (by omega), decide_eq_true_iff]
def mFin (T : tT) (r : (Nat × Nat) ⊕ fhPS) (s : fhM) : Prop := match r with
  | .inl e => tF e s
  | .inr p => ∃ k, mSt T p k s
theorem tot_of {p : fhPS} : tot p = (p.ru.map List.length).sum + (p.fa.map List.length).sum := rfl
theorem m_rulesHold {T : tT} (hT : tOK T) {p : fhPS} {k : Nat} {σ : fhM} (h : mSt T p k σ) : wq (f_X12_rulesHold σ) (fun s => mFin T (if alw p (wrn p) = true then .inr p else .inl (6, T.2)) s ∧ frl (fun t j => kD t j ∨ mD t j) σ s) := by
  obtain ⟨hp, hk, hw, ho, hr⟩ := h
  have hT1 := hT.1
  have ho' := ho
  obtain ⟨o1, o2, o3, o4, o5, o6, o7, o8, o9, o10, o11, o12, o13⟩ := ho'
  obtain ⟨w1, w2⟩ := sOK_wrn ho
  have hlen := nl_len p
  unfold f_X12_rulesHold
  refine wq_for (R := fun i x => x.1 = nI i ∧ ((frl kD σ x.2 ∧ (p.ru.take i).all (hlP p (wrn p)) = true) ∨ (tF (6, T.2) x.2 ∧ frl (fun t j => kD t j ∨ mD t j) σ x.2 ∧ alw p (wrn p) = false ∧ x.2.1 29 2 = nI p.ru.length))) 0 p.ru.length (Nat.zero_le _) ?_ ?_ ⟨rfl, Or.inl ⟨frl_rf, rfl⟩⟩
  · rintro i ⟨x, s⟩ - hi ⟨rfl, hx⟩
    (try dsimp only)
    unfold f_X12_rulesHold_2
    rcases hx with ⟨hf, ha⟩ | ⟨hF, hf, hno, h2⟩
    · dsimp only at hf
      have hrs := mRp_k hr hf
      have hps := mP_k hp hf
      obtain ⟨c, hc⟩ : ∃ c, p.ru[i]? = some c := ⟨_, List.getElem?_eq_getElem hi⟩
      have hcm := List.mem_of_getElem? hc
      have hb1 := ((sOK_ev (lf := lfR (rowm p.m p.gs.length (wrn p))) (lk := lkR (rowm p.m p.gs.length (wrn p))) ho).1 c hcm).1
      rw [hrs.2.2.2.1, if_neg (nI_ge hi (by omega)), if_pos hps.2.2.1, wq_bind]
      have htot := tot_of (p := p)
      have := m_test (b := 0) (r := i) (row := wrn p) ho hT1 hrs.2.2.2.2.2.2.2.2.1 hc (by omega) (by omega) (fun lf lk => (sOK_ev ho).1) (by omega) (Q := fun r => wq (if lg_cmp r.1 (1 : Int64) = 0 then f_X12_rulesHold_64 (nI i) r.2 else fhlet (f_X12_fail 6 (r.2.1 0 3) r.2) fun q5 => f_X12_rulesHold_64 (nI i) q5) (fhK (fun x : Int32 × fhM => x.1 = nI (i + 1) ∧ ((frl kD σ x.2 ∧ (p.ru.take (i + 1)).all (hlP p (wrn p)) = true) ∨ (tF (6, T.2) x.2 ∧ frl (fun t j => kD t j ∨ mD t j) σ x.2 ∧ alw p (wrn p) = false ∧ x.2.1 29 2 = nI p.ru.length))) (fun s => mFin T (if alw p (wrn p) = true then .inr p else .inl (6, T.2)) s ∧ frl (fun t j => kD t j ∨ mD t j) σ s))) (fun s2 f2 => ?_) 0
      · rw [Nat.zero_add] at this
        refine wq_mono this (fun q1 z => ?_)
        obtain ⟨z1, z2⟩ := z
        have hr1 := mRp_k hrs z1
        have hworn : f_X12_wornRow q1 = some (nI (wrn p)) := by
          have hwl : (p.gs.map Prod.snd).length = p.gs.length := List.length_map _
          refine m_wornRow (ws := p.gs.map Prod.snd) (by omega) o4 hr1.2.1 (by rw [hr1.2.2.1.1, hlen, hwl]) (fun g x hx => ?_)
          rw [List.getElem?_map] at hx
          obtain ⟨y, hy, rfl⟩ := Option.map_eq_some_iff.mp hx
          exact hr1.2.2.2.2.2.2.1 g y hy
        rw [hworn, wq_bind, wq_some, hr1.2.1, hr1.2.2.1.1, hlen, wq_bind]
        exact wq_mono z2 (fun q3 z3 => by rw [wq_bind]; exact z3)
      · have fs : frl kD σ s2 := frl_tr hf f2
        have hp2 := mP_k hp fs
        have hr2 := mRp_k hr fs
        have htk : p.ru.take (i + 1) = p.ru.take i ++ [c] := by rw [List.take_add_one, hc]; rfl
        unfold f_X12_rulesHold_64
        by_cases q : evc false p.gs.length (lfR (rowm p.m p.gs.length (wrn p))) (lkR (rowm p.m p.gs.length (wrn p))) c = 1
        · rw [if_pos (show lg_cmp (lI _) (1 : Int64) = 0 by rw [hol_1 hb1]; exact decide_eq_true q), wq_some, fhK_l, nI_1]
          refine ⟨rfl, Or.inl ⟨fs, ?_⟩⟩
          rw [htk, List.all_append, ha]
          simp [hlP, hol, q]
        · rw [if_neg (show ¬ lg_cmp (lI _) (1 : Int64) = 0 by rw [hol_1 hb1]; exact fun z => q (of_decide_eq_true z)), wq_let, wq_some, fhK_l, nI_1, hp2.2.1]
          obtain ⟨a, f⟩ := m_fail (q := (6, T.2)) hp2.2.2.1
          have a : mF (6, T.2) (f_X12_fail 6 (nI T.2) s2) := a
          have f : fr mD s2 (f_X12_fail 6 (nI T.2) s2) := f
          refine ⟨rfl, Or.inr ⟨mF_tF a ⟨Nat.le_of_ble_eq_true rfl, Nat.le_of_ble_eq_true rfl⟩, frl_tr (frl_mo fs (fun _ _ => Or.inl)) (frl_r f (fun _ _ => Or.inr)), ?_, ?_⟩⟩
          · rw [← Bool.not_eq_true]
            intro z
            have := List.all_eq_true.mp z c hcm
            exact q (of_decide_eq_true this)
          · show (f_X12_fail 6 (nI T.2) s2).1 29 2 = _
            rw [f.2 29 2 (by unfold mD; omega)]
            exact hr2.2.2.2.1
    · dsimp only at hF hf h2
      rw [h2, if_neg (nI_ge hi (by omega)), if_neg (tF_n hF), wq_some, fhK_r, if_neg (by rw [hno]; decide)]
      exact ⟨hF, hf⟩
  · rintro ⟨x, s⟩ ⟨rfl, hx⟩
    (try dsimp only)
    unfold f_X12_rulesHold_2
    rcases hx with ⟨hf, ha⟩ | ⟨hF, hf, hno, h2⟩
    · dsimp only at hf
      rw [(mRp_k hr hf).2.2.2.1, if_pos (nI_le (Nat.le_refl _) (by omega)), wq_some, fhK_r]
      rw [List.take_length] at ha
      have ha : alw p (wrn p) = true := ha
      rw [if_pos ha]
      exact ⟨⟨k, mP_k hp hf, hk, mW_k hw hf, ho, mRp_k hr hf⟩, frl_mo hf (fun _ _ => Or.inl)⟩
    · dsimp only at hF hf h2
      rw [h2, if_pos (nI_le (Nat.le_refl _) (by omega)), wq_some, fhK_r, if_neg (by rw [hno]; decide)]
      exact ⟨hF, hf⟩
def nD (t j : Nat) : Prop := kD t j ∨ sD t j ∨ (t = 0 ∧ (j = 1 ∨ j = 3))
theorem mk31 : ∀ v, v < 5 → (31 : Int32) &&& ((nI (2 ^ v)) ^^^ (-1 : Int32)) = nI (smk v 0) := by decide +kernel
theorem m_parlour {T : tT} (hT : tOK T) {σ : fhM} (h1 : σ.1 0 1 = nI T.2) (hx : ∀ i, i < T.2 → σ.1 1 i = nI (T.1 i)) (hw : mW σ) {Q : Int32 × fhM → Prop} (hQ : ∀ s, mFin T (sFull T) s → frl nD σ s → s.1 0 1 = 0 → wq (f_X12_parlour_127 s) Q) : wq (f_X12_parlour σ) Q := by
  have hT1 := hT.1
  unfold f_X12_parlour
  rw [h1]
  have f0 : frl nD σ (fhI (fhI (fhI (fhI (fhI (fhI (fhI σ 0 3 (nI T.2)) 0 1 (0 : Int32)) 0 2 (0 : Int32)) 0 4 (-1 : Int32)) 0 5 (0 : Int32)) 0 6 (-1 : Int32)) 0 45 (0 : Int32)) := by
    refine frl_I (frl_I (frl_I (frl_I (frl_I (frl_I (frl_I frl_rf ?_) ?_) ?_) ?_) ?_) ?_) ?_
    all_goals (unfold nD sD rD mD; omega)
  have a3 : (fhI (fhI (fhI (fhI (fhI (fhI (fhI σ 0 3 (nI T.2)) 0 1 (0 : Int32)) 0 2 (0 : Int32)) 0 4 (-1 : Int32)) 0 5 (0 : Int32)) 0 6 (-1 : Int32)) 0 45 (0 : Int32)).1 0 3 = nI T.2 := by simp (disch := omega) only [fhI_e, fhI_o, fhI_s]
  have a2 : (fhI (fhI (fhI (fhI (fhI (fhI (fhI σ 0 3 (nI T.2)) 0 1 (0 : Int32)) 0 2 (0 : Int32)) 0 4 (-1 : Int32)) 0 5 (0 : Int32)) 0 6 (-1 : Int32)) 0 45 (0 : Int32)).1 0 2 = 0 := by simp (disch := omega) only [fhI_e, fhI_o, fhI_s]
  have a4 : (fhI (fhI (fhI (fhI (fhI (fhI (fhI σ 0 3 (nI T.2)) 0 1 (0 : Int32)) 0 2 (0 : Int32)) 0 4 (-1 : Int32)) 0 5 (0 : Int32)) 0 6 (-1 : Int32)) 0 45 (0 : Int32)).1 0 4 = -1 := by simp (disch := omega) only [fhI_e, fhI_o, fhI_s]
  have a5 : (fhI (fhI (fhI (fhI (fhI (fhI (fhI σ 0 3 (nI T.2)) 0 1 (0 : Int32)) 0 2 (0 : Int32)) 0 4 (-1 : Int32)) 0 5 (0 : Int32)) 0 6 (-1 : Int32)) 0 45 (0 : Int32)).1 0 5 = 0 := by simp (disch := omega) only [fhI_e, fhI_o, fhI_s]
  have a1 : (fhI (fhI (fhI (fhI (fhI (fhI (fhI σ 0 3 (nI T.2)) 0 1 (0 : Int32)) 0 2 (0 : Int32)) 0 4 (-1 : Int32)) 0 5 (0 : Int32)) 0 6 (-1 : Int32)) 0 45 (0 : Int32)).1 0 1 = 0 := by simp (disch := omega) only [fhI_e, fhI_o, fhI_s]
  have a6 : (fhI (fhI (fhI (fhI (fhI (fhI (fhI σ 0 3 (nI T.2)) 0 1 (0 : Int32)) 0 2 (0 : Int32)) 0 4 (-1 : Int32)) 0 5 (0 : Int32)) 0 6 (-1 : Int32)) 0 45 (0 : Int32)).1 0 6 = -1 := by simp (disch := omega) only [fhI_e, fhI_o, fhI_s]
  have a45 : (fhI (fhI (fhI (fhI (fhI (fhI (fhI σ 0 3 (nI T.2)) 0 1 (0 : Int32)) 0 2 (0 : Int32)) 0 4 (-1 : Int32)) 0 5 (0 : Int32)) 0 6 (-1 : Int32)) 0 45 (0 : Int32)).1 0 45 = 0 := by simp (disch := omega) only [fhI_e, fhI_o, fhI_s]
  have ax : ∀ i, i < T.2 → (fhI (fhI (fhI (fhI (fhI (fhI (fhI σ 0 3 (nI T.2)) 0 1 (0 : Int32)) 0 2 (0 : Int32)) 0 4 (-1 : Int32)) 0 5 (0 : Int32)) 0 6 (-1 : Int32)) 0 45 (0 : Int32)).1 1 i = nI (T.1 i) := by intro i hi; simp (disch := omega) only [fhI_e, fhI_o, fhI_s]; exact hx i hi
  have aw : mW (fhI (fhI (fhI (fhI (fhI (fhI (fhI σ 0 3 (nI T.2)) 0 1 (0 : Int32)) 0 2 (0 : Int32)) 0 4 (-1 : Int32)) 0 5 (0 : Int32)) 0 6 (-1 : Int32)) 0 45 (0 : Int32)) := mW_fr hw (fun v i hv hi => by simp (disch := omega) only [fhI_e, fhI_o, fhI_s])
  generalize (fhI (fhI (fhI (fhI (fhI (fhI (fhI σ 0 3 (nI T.2)) 0 1 (0 : Int32)) 0 2 (0 : Int32)) 0 4 (-1 : Int32)) 0 5 (0 : Int32)) 0 6 (-1 : Int32)) 0 45 (0 : Int32)) = σ0 at *
  refine wq_for (R := fun k x => ∃ g, x = (nI k, fhU σ0 29 g) ∧ ∀ j, g j = if j < k then 0 else σ0.1 29 j) 0 5 (by decide) ?_ ?_ ⟨σ0.1 29, by rw [fhU_id (fun _ => rfl)]; rfl, fun j => (if_neg (Nat.not_lt_zero j)).symm⟩
  · rintro k x - hk ⟨g, rfl, hg⟩
    (try dsimp only)
    unfold f_X12_parlour_40
    rw [if_neg (show ¬ (5 : Int32) ≤ nI k from nI_ge (b := 5) hk (by decide)), if_pos (ph_in1 (by omega) (by omega)), ph_ix (by omega), nI_1, fhU_I, wq_some, fhK_l]
    refine ⟨_, rfl, fun j => ?_⟩
    (try dsimp only)
    by_cases q : j = k
    · rw [if_pos q, if_pos (by omega)]
    · rw [if_neg q, hg j]
      by_cases q2 : j < k
      · rw [if_pos q2, if_pos (by omega)]
      · rw [if_neg q2, if_neg (by omega)]
  · rintro x ⟨g, rfl, hg⟩
    (try dsimp only)
    unfold f_X12_parlour_40
    rw [if_pos (show (5 : Int32) ≤ nI 5 by decide), wq_map]
    refine wq_for (R := fun k x => ∃ g2, x = (nI k, fhU (fhU σ0 29 g) 32 g2) ∧ ∀ j, g2 j = if j < k then nI (smk j 0) else σ0.1 32 j) 0 5 (by decide) ?_ ?_ ⟨(fhU σ0 29 g).1 32, by rw [fhU_id (fun _ => rfl)]; rfl, fun j => by rw [fhU_o (by decide)]; exact (if_neg (Nat.not_lt_zero j)).symm⟩
    · rintro k x - hk ⟨g2, rfl, hg2⟩
      (try dsimp only)
      unfold f_X12_parlour_60
      rw [if_neg (show ¬ (5 : Int32) ≤ nI k from nI_ge (b := 5) hk (by decide)), if_pos (ph_in1 (by omega) (by omega)), ph_ix (by omega), nI_1, ph_shl1 (by omega), mk31 k hk, fhU_I, wq_some, fhK_l]
      refine ⟨_, rfl, fun j => ?_⟩
      (try dsimp only)
      by_cases q : j = k
      · rw [if_pos q, if_pos (by omega), q]
      · rw [if_neg q, hg2 j]
        by_cases q2 : j < k
        · rw [if_pos q2, if_pos (by omega)]
        · rw [if_neg q2, if_neg (by omega)]
    · rintro x ⟨g2, rfl, hg2⟩
      (try dsimp only)
      unfold f_X12_parlour_60
      rw [if_pos (show (5 : Int32) ≤ nI 5 by decide), wq_bind]
      have f1 : frl nD σ (fhU (fhU σ0 29 g) 32 g2) := by
        refine ⟨fun t j hn => ?_, f0.2⟩
        rw [fhU_2, fhU_2]
        refine ⟨?_, (f0.1 t j hn).2⟩
        by_cases q32 : t = 32
        · subst q32
          rw [fhU_e, hg2 j, if_neg (fun z => hn (by unfold nD sD; omega))]
          exact (f0.1 32 j hn).1
        · rw [fhU_o q32]
          by_cases q29 : t = 29
          · subst q29
            rw [fhU_e, hg j, if_neg (fun z => hn (by unfold nD sD; omega))]
            exact (f0.1 29 j hn).1
          · rw [fhU_o q29]
            exact (f0.1 t j hn).1
      have e : ∀ t j, t ≠ 29 → t ≠ 32 → (fhU (fhU σ0 29 g) 32 g2).1 t j = σ0.1 t j := fun t j h1 h2 => by rw [fhU_o h2, fhU_o h1]
      have e29 : ∀ j, j < 5 → (fhU (fhU σ0 29 g) 32 g2).1 29 j = 0 := fun j hj => by rw [fhU_o (by decide), fhU_e, hg j, if_pos hj]
      have hw1 : mW (fhU (fhU σ0 29 g) 32 g2) := mW_fr aw (fun v i hv hi => by
        have hv2 : v ≠ 29 ∧ v ≠ 32 := by
          refine ⟨?_, ?_⟩ <;> (rintro rfl; exact Nat.not_lt_zero _ hi)
        exact e v i hv2.1 hv2.2)
      have hp1 : mP T 0 (fhU (fhU σ0 29 g) 32 g2) := by
        refine ⟨fun i hi => by rw [e _ _ (by decide) (by decide)]; exact ax i hi, by rw [e _ _ (by decide) (by decide)]; exact a3, by rw [e _ _ (by decide) (by decide)]; exact a5, ⟨0, by rw [e _ _ (by decide) (by decide)]; exact a2, Nat.le_refl _, Nat.zero_le _⟩, fun z => (by cases z), fun _ j _ hj => ?_, by rw [e _ _ (by decide) (by decide)]; exact a6⟩
        rw [e _ _ (by decide) (by decide), a4]
        exact fun z => ph_m1n hj z.symm
      have hr1 : rN [] (fhU (fhU σ0 29 g) 32 g2) ∧ (fhU (fhU σ0 29 g) 32 g2).1 29 2 = 0 ∧ (fhU (fhU σ0 29 g) 32 g2).1 29 3 = 0 ∧ (fhU (fhU σ0 29 g) 32 g2).1 29 4 = 0 ∧ (∀ a, a < 5 → (fhU (fhU σ0 29 g) 32 g2).1 32 a = nI (smk a 0)) ∧ (fhU (fhU σ0 29 g) 32 g2).1 0 45 = 0 := by
        refine ⟨⟨e29 1 (by decide), Nat.zero_le _, ?_⟩, e29 2 (by decide), e29 3 (by decide), e29 4 (by decide), fun a ha => ?_, ?_⟩
        · intro g l hl
          cases hl
        · rw [fhU_e, hg2 a, if_pos ha]
        · rw [e _ _ (by decide) (by decide)]
          exact a45
      have b1 : (fhU (fhU σ0 29 g) 32 g2).1 0 1 = 0 := by rw [e _ _ (by decide) (by decide)]; exact a1
      generalize (fhU (fhU σ0 29 g) 32 g2) = σ1 at *
      refine wq_mono (ms_stm0 hT hp1 (Nat.zero_le _) hw1 hr1) (fun s z => ?_)
      obtain ⟨z1, z2⟩ := z
      rw [wq_map]
      have f2 : frl nD σ (fhI s 0 46 (1 : Int32)) := frl_tr f1 (frl_mo z2 (fun _ _ h => Or.inr (Or.inl h)))
      have b2 : (fhI s 0 46 (1 : Int32)).1 0 1 = 0 := by rw [(z2.1 0 1 (by unfold sD rD mD; omega)).1]; exact b1
      generalize fhI s 0 46 (1 : Int32) = s1 at *
      have bad : ∀ e s2, sFull T = .inl e → tF e s2 → frl nD σ s2 → s2.1 0 1 = 0 → wq (f_X12_parlour_116 s2) Q := by
        intro e s2 h1 h2 h3 h4
        unfold f_X12_parlour_116
        rw [if_neg (tF_n h2)]
        exact hQ s2 (by rw [h1]; exact h2) h3 h4
      cases hx1 : stm0 T ps0 0 with
      | inl e =>
        rw [hx1] at z1
        have z1 : tF e s1 := z1
        refine wq_step ?_
        (try dsimp only)
        unfold f_X12_parlour_94
        rw [if_neg (tF_n z1), wq_map]
        exact wq_mono (bad e s1 (by unfold sFull sText; rw [hx1]) z1 f2 b2) (fun r z => z)
      | inr x =>
        rw [hx1] at z1
        have z1 : mSt T x.2 x.1 s1 := z1
        have hn := stm0_n hx1
        refine wq_mono (ms_loop (Q := Q) hT 60 x.1 x.2 s1 z1 (by omega) (fun s2 h2 f3 => ?_)) (fun r z => z)
        have hst : sText T = sAll T 60 x.2 x.1 := by unfold sText; rw [hx1]
        have b3 : s2.1 0 1 = 0 := by rw [(f3.1 0 1 (by unfold sD rD mD; omega)).1]; exact b2
        have f4 : frl nD σ s2 := frl_tr f2 (frl_mo f3 (fun _ _ h => Or.inr (Or.inl h)))
        cases hx2 : sAll T 60 x.2 x.1 with
        | inl e =>
          rw [hx2] at h2
          exact bad e s2 (by unfold sFull; rw [hst, hx2]) h2 f4 b3
        | inr p =>
          rw [hx2] at h2
          obtain ⟨k, h3, h4⟩ := h2
          have hs : sFull T = if alw p (wrn p) = true then .inr p else .inl (6, T.2) := by unfold sFull; rw [hst, hx2]
          unfold f_X12_parlour_116
          rw [if_pos h3.1.2.2.1, wq_bind]
          refine wq_mono (m_rulesHold hT h3) (fun s3 z => ?_)
          exact hQ s3 (by rw [hs]; exact z.1) (frl_tr f4 (frl_mo z.2 (fun t j h => by
            rcases h with h | h
            · exact Or.inl h
            · exact Or.inr (Or.inl (mD_s h))))) (by rw [(z.2.1 0 1 (by unfold kD mD; omega)).1]; exact b3)
