/-! THE REFERENCE READS A STATEMENT -/
theorem r_as3 {T : tT} (hT : tOK T) {k : Nat} {σ : fhM} (h : mP T k σ) (hw : mW σ) : wq (f_X12_asks 3 σ) (fun s => (isw T k 0 → mP T (k + 1) s) ∧ (¬ isw T k 0 → mF (1, fm T k) s) ∧ fr mD σ s) := by
  refine wq_mono (m_asks hT h (mw3 hw)) (fun s p => ?_)
  by_cases z : isw T k 0
  · have := p.1
    rw [if_pos ((lw (by decide) rfl).mpr z)] at this
    exact ⟨fun _ => this, fun y => absurd z y, p.2⟩
  · have := p.1
    rw [if_neg (fun y => z ((lw (by decide) rfl).mp y))] at this
    exact ⟨fun y => absurd y z, fun _ => this, p.2⟩
/-- frames with longs -/
def frl (D : Nat → Nat → Prop) (σ σ' : fhM) : Prop := (∀ t j, ¬ D t j → σ'.1 t j = σ.1 t j ∧ σ'.2.1 t j = σ.2.1 t j) ∧ σ'.2.2 = σ.2.2
theorem frl_rf {D : Nat → Nat → Prop} {σ : fhM} : frl D σ σ := ⟨fun _ _ _ => ⟨rfl, rfl⟩, rfl⟩
theorem frl_tr {D : Nat → Nat → Prop} {σ σ' σ'' : fhM} (h : frl D σ σ') (h2 : frl D σ' σ'') : frl D σ σ'' := ⟨fun t j n => ⟨(h2.1 t j n).1.trans (h.1 t j n).1, (h2.1 t j n).2.trans (h.1 t j n).2⟩, h2.2.trans h.2⟩
theorem frl_mo {D D' : Nat → Nat → Prop} {σ σ' : fhM} (h : frl D σ σ') (hi : ∀ t j, D t j → D' t j) : frl D' σ σ' := ⟨fun t j n => h.1 t j (fun q => n (hi t j q)), h.2⟩
theorem frl_r {D E : Nat → Nat → Prop} {σ σ' : fhM} (h : fr E σ σ') (hi : ∀ t j, E t j → D t j) : frl D σ σ' := ⟨fun t j n => ⟨h.2 t j (fun q => n (hi t j q)), by rw [h.1]⟩, by rw [h.1]⟩
theorem frl_I {D : Nat → Nat → Prop} {σ σ' : fhM} {t k : Nat} {x : Int32} (h : frl D σ σ') (hd : D t k) : frl D σ (fhI σ' t k x) := by
  refine ⟨fun a j n => ⟨?_, ?_⟩, ?_⟩
  · rw [fhI_r, if_neg (fun q : a = t ∧ j = k => n (q.1 ▸ q.2 ▸ hd))]; exact (h.1 a j n).1
  · rw [fhI_2]; exact (h.1 a j n).2
  · rw [fhI_2]; exact h.2
theorem frl_J {D : Nat → Nat → Prop} {σ σ' : fhM} {t k : Nat} {x : Int64} (h : frl D σ σ') (hd : D t k) : frl D σ (fhJ σ' t k x) := by
  refine ⟨fun a j n => ⟨?_, ?_⟩, ?_⟩
  · rw [fhJ_1]; exact (h.1 a j n).1
  · rw [fhJ_r, if_neg (fun q : a = t ∧ j = k => n (q.1 ▸ q.2 ▸ hd))]; exact (h.1 a j n).2
  · rw [fhJ_22]; exact h.2
def sD (t j : Nat) : Prop := rD t j ∨ (t = 0 ∧ (j = 45 ∨ j = 46 ∨ j = 48)) ∨ (29 ≤ t ∧ t ≤ 32 ∧ j < 5) ∨ t = 33 ∨ t = 34 ∨ t = 35
theorem mD_s {t j : Nat} (h : mD t j) : sD t j := Or.inl (mD_r h)
/-- who is seen, with the blind bits b of guest a -/
def smk (a b : Nat) : Nat := (31 ^^^ 2 ^ a) &&& (31 ^^^ b)
def mTs (b : Nat) (cs : List gC) (n : Nat) (σ : fhM) : Prop := ∀ r c, cs[r]? = some c → ∃ a, σ.1 33 (b + r) = nI a ∧ σ.1 34 (b + r) = nI (a + c.length) ∧ a + c.length ≤ n ∧ ∀ i c', c[i]? = some c' → σ.1 35 (a + i) = nI (rEnc c')
def tot (p : fhPS) : Nat := (p.ru.map List.length).sum + (p.fa.map List.length).sum
def mRp (p : fhPS) (σ : fhM) : Prop :=
  σ.1 0 46 = nI p.n ∧ σ.1 29 0 = nI p.m ∧ rN p.nl σ ∧ σ.1 29 2 = nI p.ru.length ∧ σ.1 29 3 = nI p.fa.length ∧ σ.1 29 4 = nI p.sl ∧ (∀ g x, p.gs[g]? = some x → σ.1 31 g = nI x.2) ∧ (∀ a, a < 5 → σ.1 32 a = nI (smk a (p.bl a))) ∧ mTs 0 p.ru (tot p) σ ∧ mTs 4 p.fa (tot p) σ ∧ σ.1 0 45 = nI (tot p)
def mSt (T : tT) (p : fhPS) (k : Nat) (σ : fhM) : Prop := mP T k σ ∧ k ≤ T.2 ∧ mW σ ∧ sOK T p k ∧ mRp p σ
def mRes (T : tT) (r : gS) (s : fhM) : Prop := match r with
  | .inl e => tF e s
  | .inr x => mSt T x.2 x.1 s
theorem mTs_fr {b n : Nat} {cs : List gC} {σ σ' : fhM} (h : mTs b cs n σ) (h3 : ∀ j, σ'.1 33 j = σ.1 33 j) (h4 : ∀ j, σ'.1 34 j = σ.1 34 j) (h5 : ∀ j, j < n → σ'.1 35 j = σ.1 35 j) : mTs b cs n σ' := by
  intro r c hc
  obtain ⟨a, g1, g2, g3, g4⟩ := h r c hc
  refine ⟨a, by rw [h3]; exact g1, by rw [h4]; exact g2, g3, fun i c' hi => ?_⟩
  have := (List.getElem?_eq_some_iff.mp hi).1
  rw [h5 _ (by omega)]
  exact g4 i c' hi
theorem mRp_fr {p : fhPS} {σ σ' : fhM} (h : mRp p σ) (hf : frl rD σ σ') : mRp p σ' := by
  obtain ⟨h1, h2, h3, h4, h5, h6, h7, h8, h9, h10, h11⟩ := h
  have e : ∀ t j, (29 ≤ t ∧ t ≤ 35) ∨ (t = 0 ∧ 45 ≤ j ∧ j ≤ 48) → σ'.1 t j = σ.1 t j ∧ σ'.2.1 t j = σ.2.1 t j := fun t j ht => hf.1 t j (by unfold rD mD; omega)
  refine ⟨by rw [(e 0 46 (by omega)).1]; exact h1, by rw [(e 29 0 (by omega)).1]; exact h2, ⟨by rw [(e 29 1 (by omega)).1]; exact h3.1, h3.2.1, fun g l hg => ?_⟩, by rw [(e 29 2 (by omega)).1]; exact h4, by rw [(e 29 3 (by omega)).1]; exact h5, by rw [(e 29 4 (by omega)).1]; exact h6, fun g x hx => by rw [(e 31 g (by omega)).1]; exact h7 g x hx, fun a ha => by rw [(e 32 a (by omega)).1]; exact h8 a ha,
    mTs_fr h9 (fun j => (e 33 j (by omega)).1) (fun j => (e 34 j (by omega)).1) (fun j _ => (e 35 j (by omega)).1), mTs_fr h10 (fun j => (e 33 j (by omega)).1) (fun j => (e 34 j (by omega)).1) (fun j _ => (e 35 j (by omega)).1), by rw [(e 0 45 (by omega)).1]; exact h11⟩
  rw [(e 30 g (by omega)).2]
  exact h3.2.2 g l hg
theorem mRp_m {p : fhPS} {σ σ' : fhM} (h : mRp p σ) (hf : fr mD σ σ') : mRp p σ' := mRp_fr h (frl_r hf (fun _ _ => mD_r))
theorem ms_semiN {e : Nat × Nat} {σ : fhM} (h : tF e σ) : wq (f_X12_statementTold_122 σ) (fun s => tF e s ∧ frl sD σ s) := by
  unfold f_X12_statementTold_122
  rw [m_asksSignN (tF_n h), wq_bind, wq_some, wq_some]
  obtain ⟨⟨h1, h1b⟩, h2, h3⟩ := h
  refine ⟨⟨⟨?_, ?_⟩, h2, h3⟩, frl_I frl_rf (Or.inr (Or.inl ⟨rfl, by omega⟩))⟩
  · simp (disch := omega) only [fhI_e, fhI_o, fhI_s]; exact h1
  · simp (disch := omega) only [fhI_e, fhI_o, fhI_s]; exact h1b
theorem ms_semi {T : tT} (hT : tOK T) {k : Nat} {p : fhPS} {σ : fhM} (h : mP T k σ) (hw : mW σ) (hr : mRp p σ) (hn : p.n < 60) (ho : sOK T (fhPS.wn p (p.n + 1)) (k + 1) ∨ ¬ isg T k 59) : wq (f_X12_statementTold_122 σ) (fun s => mRes T (semi T k p) s ∧ frl sD σ s) := by
  unfold f_X12_statementTold_122
  rw [wq_bind]
  refine wq_mono (m_asksSign (c := 59) hT rfl (by decide) h) (fun s z => ?_)
  obtain ⟨z1, z2, z3⟩ := z
  rw [wq_some]
  refine ⟨?_, frl_I (frl_r z3 (fun _ _ => mD_s)) (Or.inr (Or.inl ⟨rfl, by omega⟩))⟩
  unfold semi
  by_cases q : isg T k 59
  · have ho : sOK T (fhPS.wn p (p.n + 1)) (k + 1) := ho.elim id (fun z => absurd q z)
    have hp := z1 q
    have hkT := kd_num (isg_k q)
    rw [gif_t q]
    obtain ⟨h1, h2, h3, h4, h5, h6, h7, h8, h9, h10, h11⟩ := mRp_m hr z3
    refine ⟨mP_fr hp (fun i _ => by simp (disch := omega) only [fhI_e, fhI_o, fhI_s]) (by simp (disch := omega) only [fhI_e, fhI_o, fhI_s]) (by simp (disch := omega) only [fhI_e, fhI_o, fhI_s]) (by simp (disch := omega) only [fhI_e, fhI_o, fhI_s]) (by simp (disch := omega) only [fhI_e, fhI_o, fhI_s]) (by simp (disch := omega) only [fhI_e, fhI_o, fhI_s]), by show k + 1 ≤ T.2; omega, mW_fr (mW_m hw z3) (fun v i hv _ => by simp (disch := omega) only [fhI_e, fhI_o, fhI_s]), ho, ?_⟩
    refine ⟨?_, ?_, rN_fr h3 (by simp (disch := omega) only [fhI_e, fhI_o, fhI_s]) rfl, ?_, ?_, ?_, ?_, ?_, mTs_fr h9 (fun j => by simp (disch := omega) only [fhI_e, fhI_o, fhI_s]) (fun j => by simp (disch := omega) only [fhI_e, fhI_o, fhI_s]) (fun j _ => by simp (disch := omega) only [fhI_e, fhI_o, fhI_s]), mTs_fr h10 (fun j => by simp (disch := omega) only [fhI_e, fhI_o, fhI_s]) (fun j => by simp (disch := omega) only [fhI_e, fhI_o, fhI_s]) (fun j _ => by simp (disch := omega) only [fhI_e, fhI_o, fhI_s]), ?_⟩
    · simp (disch := omega) only [fhI_e, fhI_o, fhI_s]; rw [h1, nI_1]
    · simp (disch := omega) only [fhI_e, fhI_o, fhI_s]; exact h2
    · simp (disch := omega) only [fhI_e, fhI_o, fhI_s]; exact h4
    · simp (disch := omega) only [fhI_e, fhI_o, fhI_s]; exact h5
    · simp (disch := omega) only [fhI_e, fhI_o, fhI_s]; exact h6
    · intro g x hx; simp (disch := omega) only [fhI_e, fhI_o, fhI_s]; exact h7 g x hx
    · intro a ha; simp (disch := omega) only [fhI_e, fhI_o, fhI_s]; exact h8 a ha
    · simp (disch := omega) only [fhI_e, fhI_o, fhI_s]; exact h11
  · rw [gif_f q]
    obtain ⟨a, b⟩ := z2 q
    refine ⟨⟨?_, ?_⟩, Nat.le_refl _, Nat.le_of_ble_eq_true rfl⟩
    · simp (disch := omega) only [fhI_e, fhI_o, fhI_s]; exact a
    · simp (disch := omega) only [fhI_e, fhI_o, fhI_s]; exact b
/-- full, for its kind -/
theorem ms_full {kind n room : Nat} {σ : fhM} {T : tT} {k : Nat} (hk : kind < 10) (h : mP T k σ) (h2 : σ.1 29 kind = nI n) (hn : n ≤ room) (hr : room < 100) {b : Nat} (hb : b ≤ T.2) (hT : tOK T) :
    wq (f_X12_isFull (nI kind) (nI room) (nI b) σ) (fun r => (n = room → r.1 = true ∧ tF (5, b) r.2) ∧ (n ≠ room → r = (false, σ)) ∧ fr mD σ r.2) := by
  unfold f_X12_isFull f_X12_isFull_23
  rw [if_pos h.2.2.1, if_pos (ph_in1 (by omega) hk), ph_ix (by omega), h2]
  by_cases q : n = room
  · rw [if_pos (by rw [q]), wq_let]
    obtain ⟨a, f⟩ := m_fail (q := (5, b)) h.2.2.1
    have a : mF (5, b) (f_X12_fail 5 (nI b) σ) := a
    have ht : tF (5, b) (f_X12_fail 5 (nI b) σ) := ⟨a, Nat.le_of_ble_eq_true rfl, Nat.le_of_ble_eq_true rfl⟩
    rw [if_neg (tF_n ht), wq_some]
    exact ⟨fun _ => ⟨rfl, ht⟩, fun z => absurd q z, f⟩
  · rw [if_neg (nIn q (by omega) (by omega)), if_pos h.2.2.1, wq_some]
    exact ⟨fun z => absurd z q, fun _ => rfl, fr_rf⟩
