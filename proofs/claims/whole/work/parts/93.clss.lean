/-! THE CLASS READS A STATEMENT -/
theorem val_w {T : tT} {k : Nat} (h : kd T k = 1) (h6 : to T k - fm T k ≤ 6) : val T k = p5 (lt T k) := by
  have e := kd_13 (T := T) (k := k) (by omega)
  unfold val
  rw [if_pos (by omega), if_pos h6]
theorem c_nameN {e : Nat × Nat} {σ : fhM} (h : cF e σ) : (f_X8_takeName σ).2 = σ := by
  unfold f_X8_takeName f_X8_takeName_17 f_X8_takeName_21 f_X8_takeName_47 fhlet
  (try dsimp only)
  rw [h.2.2.1, if_neg (show ¬ (4 : Int32) = 1 by decide), c_failHereN h, c_failN h, c_advN h]
  split <;> rfl
theorem c_name {T : tT} (hT : tOK T) {m k : Nat} (hm : tend T m) {σ : fhM} (h : cP T m k σ) : ((aF T k).1 = 0 → (f_X8_takeName σ).1 = nI (p5 (lt T k)) ∧ cP T m (k + 1) (f_X8_takeName σ).2) ∧ ((aF T k).1 ≠ 0 → cF (aF T k) (f_X8_takeName σ).2) ∧ fr cDf σ (f_X8_takeName σ).2 := by
  have hT2 := hT.1
  have hl := to_le T k
  have h0 := h
  obtain ⟨h1, h2, h3, h4, h5, h6, h7, h8, h9⟩ := h0
  have a1 := kd_le4 T k
  -- behind a fault that was found
  have bad : ∀ s e, cF e s → f_X8_takeName_21 s = (s.1 3 6, s) := by
    intro s e hs
    unfold f_X8_takeName_21 f_X8_takeName_47 fhlet
    (try dsimp only)
    rw [c_failN hs, c_advN hs]
    split <;> rfl
  have badw : (aF T k) = (1, fm T k) → f_X8_takeName σ = f_X8_takeName_17 σ → ((aF T k).1 = 0 → (f_X8_takeName σ).1 = nI (p5 (lt T k)) ∧ cP T m (k + 1) (f_X8_takeName σ).2) ∧ ((aF T k).1 ≠ 0 → cF (aF T k) (f_X8_takeName σ).2) ∧ fr cDf σ (f_X8_takeName σ).2 := by
    intro e e2
    obtain ⟨a, b⟩ := c_failHere h
    have e3 : f_X8_takeName σ = ((f_X8_failHere σ).1 3 6, f_X8_failHere σ) := by
      rw [e2]
      unfold f_X8_takeName_17 fhlet
      exact bad _ _ a
    rw [e, e3]
    exact ⟨fun z => (by cases z), fun _ => a, b⟩
  by_cases q : kd T k = 1
  · have hk : k < m := c_kd hm (by omega)
    have hgt := to_gt (T := T) (k := k) (by omega)
    have hw := (h9 hk).2
    rw [wno_w q] at hw
    have how := ow_99 (l := lt T k)
    have e1 : f_X8_takeName σ = if (26 : Int32) ≤ σ.1 3 7 then f_X8_takeName_21 σ else f_X8_takeName_17 σ := by
      unfold f_X8_takeName
      rw [if_pos (show σ.1 3 4 = (1 : Int32) by rw [h8, q]; rfl)]
    by_cases q2 : lt T k ∈ oww
    · have : ow (lt T k) < 26 := oww_ow.mp q2
      refine badw (by unfold aF; rw [if_pos (Or.inr q2)]) ?_
      rw [e1, hw, if_neg (show ¬ (26 : Int32) ≤ nI (ow (lt T k)) from nI_ge (a := ow (lt T k)) (b := 26) (by omega) (by omega))]
    · have : ¬ ow (lt T k) < 26 := fun z => q2 (oww_ow.mpr z)
      have e2 : f_X8_takeName σ = f_X8_takeName_21 σ := by
        rw [e1, hw, if_pos (show (26 : Int32) ≤ nI (ow (lt T k)) from nI_le (a := 26) (by omega) (by omega))]
      have hd := lt_let q
      by_cases q3 : to T k - fm T k ≤ 6
      · have e : aF T k = (0, 0) := by unfold aF; rw [if_neg (by rintro (z | z); exact z q; exact q2 z), if_neg (by omega)]
        have e3 : f_X8_takeName σ = (σ.1 3 6, f_X8_advance σ) := by
          rw [e2]
          unfold f_X8_takeName_21 f_X8_takeName_47 fhlet
          (try dsimp only)
          rw [h7, h6, pk_sub (by omega), if_pos (show nI (to T k - fm T k) ≤ (6 : Int32) from nI_le (b := 6) q3 (by decide))]
        obtain ⟨a, b⟩ := c_adv hT hm hk h
        rw [e, e3]
        exact ⟨fun _ => ⟨by show σ.1 3 6 = _; rw [(h9 hk).1, val_w q q3], a⟩, fun z => absurd rfl z, fr_mo b (fun _ _ => cDa_f)⟩
      · have e : aF T k = (1, fm T k + 6) := by unfold aF; rw [if_neg (by rintro (z | z); exact z q; exact q2 z), if_pos (by omega)]
        obtain ⟨a, b⟩ := c_fail (e := (1, fm T k + 6)) h ⟨Nat.le_of_ble_eq_true rfl, Nat.le_of_ble_eq_true rfl⟩
        have a : cF (1, fm T k + 6) (f_X8_fail 1 (nI (fm T k + 6)) σ) := a
        have b : fr cDf σ (f_X8_fail 1 (nI (fm T k + 6)) σ) := b
        have e3 : f_X8_takeName σ = ((f_X8_fail 1 (nI (fm T k + 6)) σ).1 3 6, f_X8_fail 1 (nI (fm T k + 6)) σ) := by
          rw [e2]
          unfold f_X8_takeName_21 f_X8_takeName_47 fhlet
          (try dsimp only)
          rw [h7, h6, pk_sub (by omega), if_neg (show ¬ nI (to T k - fm T k) ≤ (6 : Int32) from nI_ge (a := 6) (by omega) (by omega)), show (6 : Int32) = nI 6 from rfl, nI_add, c_advN a]
        rw [e, e3]
        exact ⟨fun z => (by cases z), fun _ => a, b⟩
  · refine badw (by unfold aF; rw [if_pos (Or.inl q)]) ?_
    unfold f_X8_takeName
    rw [h8, if_neg (show ¬ nI _ = (1 : Int32) from nIn q (b := 1) (by omega) (by decide))]
/-! what a part of a text has told, in the class's cells -/
def wsum (m : Nat) : List Nat → Nat
  | [] => 0
  | x :: r => x + m * wsum m r
theorem wsum_app (m x : Nat) : ∀ l : List Nat, wsum m (l ++ [x]) = wsum m l + x * m ^ l.length := by
  intro l
  induction l with
  | nil => show x + m * 0 = 0 + x * m ^ 0; rw [Nat.pow_zero]; omega
  | cons a r ih =>
    show a + m * wsum m (r ++ [x]) = a + m * wsum m r + x * m ^ (r.length + 1)
    rw [ih, Nat.mul_add, Nat.pow_succ]
    have : m * (x * m ^ r.length) = x * (m ^ r.length * m) := by rw [Nat.mul_left_comm, Nat.mul_comm m (m ^ r.length)]
    omega
theorem wsum_lt {m : Nat} : ∀ {l : List Nat}, (∀ x ∈ l, x < m) → wsum m l < m ^ l.length := by
  intro l
  induction l with
  | nil => intro _; show 0 < 1; omega
  | cons a r ih =>
    intro h
    have h1 := ih (fun x hx => h x (List.mem_cons_of_mem _ hx))
    have h2 := h a List.mem_cons_self
    show a + m * wsum m r < m ^ (r.length + 1)
    rw [Nat.pow_succ, Nat.mul_comm (m ^ r.length) m]
    have : m * (wsum m r + 1) ≤ m * m ^ r.length := Nat.mul_le_mul_left m h1
    rw [Nat.mul_add] at this
    omega
def cTs (t : Nat) (cs : List gC) (out : gC) (σ : fhM) : Prop := ∀ r c, cs[r]? = some c → ∃ a, σ.1 t (2 * r) = nI a ∧ σ.1 t (2 * r + 1) = nI (a + c.length) ∧ a + c.length ≤ out.length ∧ ∀ i, i < c.length → out[a + i]? = c[i]?
def cRp (P : Nat) (p : fhPS) (out : gC) (σ : fhM) : Prop :=
  σ.1 P 8 = nI p.n ∧ σ.1 P 9 = nI p.m ∧ cN P p.nl σ ∧ σ.1 P 11 = nI p.ru.length ∧ σ.1 P 12 = nI p.fa.length ∧ σ.1 P 13 = nI p.sl ∧ σ.1 P 14 = nI (wsum p.m (p.gs.map Prod.snd)) ∧ σ.1 P 6 = nI (p.m ^ p.gs.length) ∧
  (∀ a, a < 5 → σ.1 (P + 5) a = nI (p.bl a)) ∧ cTs (P + 7) p.ru out σ ∧ cTs (P + 9) p.fa out σ ∧ cS (P + 1) out σ
theorem cTs_fr {t : Nat} {cs : List gC} {out : gC} {σ σ' : fhM} (h : cTs t cs out σ) (hf : ∀ j, σ'.1 t j = σ.1 t j) : cTs t cs out σ' := by
  intro r c hc
  obtain ⟨a, h1, h2, h3, h4⟩ := h r c hc
  exact ⟨a, by rw [hf]; exact h1, by rw [hf]; exact h2, h3, h4⟩
theorem cTs_ext {t : Nat} {cs : List gC} {out c2 : gC} {σ : fhM} (h : cTs t cs out σ) : cTs t cs (out ++ c2) σ := by
  intro r c hc
  obtain ⟨a, h1, h2, h3, h4⟩ := h r c hc
  refine ⟨a, h1, h2, by rw [List.length_append]; omega, fun i hi => ?_⟩
  rw [List.getElem?_append_left (by omega)]
  exact h4 i hi
theorem cRp_fr {P : Nat} {p : fhPS} {out : gC} {σ σ' : fhM} (h : cRp P p out σ) (hf : ∀ t j, P ≤ t → t ≤ P + 11 → σ'.1 t j = σ.1 t j) : cRp P p out σ' := by
  obtain ⟨h1, h2, h3, h4, h5, h6, h7, h8, h9, h10, h11, h12⟩ := h
  have e0 : ∀ j, σ'.1 P j = σ.1 P j := fun j => hf P j (by omega) (by omega)
  exact ⟨by rw [e0]; exact h1, by rw [e0]; exact h2, cN_fr h3 (e0 10) (fun i => hf _ i (by omega) (by omega)), by rw [e0]; exact h4, by rw [e0]; exact h5, by rw [e0]; exact h6, by rw [e0]; exact h7, by rw [e0]; exact h8,
    fun a ha => by rw [hf _ a (by omega) (by omega)]; exact h9 a ha, cTs_fr h10 (fun j => hf _ j (by omega) (by omega)), cTs_fr h11 (fun j => hf _ j (by omega) (by omega)), cS_fr h12 (hf _ 1 (by omega) (by omega)) (fun i => hf _ i (by omega) (by omega))⟩
/-- frames by places; references may change there too -/
def fpl (D : Nat → Prop) (σ σ' : fhM) : Prop := (∀ t j, ¬ D t → σ'.1 t j = σ.1 t j ∧ σ'.2.2 t j = σ.2.2 t j) ∧ σ'.2.1 = σ.2.1
theorem fpl_rf {D : Nat → Prop} {σ : fhM} : fpl D σ σ := ⟨fun _ _ _ => ⟨rfl, rfl⟩, rfl⟩
theorem fpl_tr {D : Nat → Prop} {σ σ' σ'' : fhM} (h : fpl D σ σ') (h2 : fpl D σ' σ'') : fpl D σ σ'' := ⟨fun t j n => ⟨(h2.1 t j n).1.trans (h.1 t j n).1, (h2.1 t j n).2.trans (h.1 t j n).2⟩, h2.2.trans h.2⟩
theorem fpl_mo {D D' : Nat → Prop} {σ σ' : fhM} (h : fpl D σ σ') (hi : ∀ t, D t → D' t) : fpl D' σ σ' := ⟨fun t j n => h.1 t j (fun q => n (hi t q)), h.2⟩
theorem fpl_r {D : Nat → Prop} {E : Nat → Nat → Prop} {σ σ' : fhM} (h : fr E σ σ') (hi : ∀ t j, E t j → D t) : fpl D σ σ' := ⟨fun t j n => ⟨h.2 t j (fun q => n (hi t j q)), by rw [h.1]⟩, by rw [h.1]⟩
theorem fpl_I {D : Nat → Prop} {σ σ' : fhM} {t k : Nat} {x : Int32} (h : fpl D σ σ') (hd : D t) : fpl D σ (fhI σ' t k x) := by
  refine ⟨fun a j n => ⟨?_, ?_⟩, ?_⟩
  · rw [fhI_r, if_neg (fun q : a = t ∧ j = k => n (q.1 ▸ hd))]; exact (h.1 a j n).1
  · rw [fhI_2]; exact (h.1 a j n).2
  · rw [fhI_2]; exact h.2
theorem fpl_R {D : Nat → Prop} {σ σ' : fhM} {t k x : Nat} (h : fpl D σ σ') (hd : D t) : fpl D σ (fhR σ' t k x) := by
  refine ⟨fun a j n => ⟨?_, ?_⟩, ?_⟩
  · rw [fhR_1]; exact (h.1 a j n).1
  · rw [fhR_r, if_neg (fun q : a = t ∧ j = k => n (q.1 ▸ hd))]; exact (h.1 a j n).2
  · rw [fhR_21]; exact h.2
theorem fcP_fr {σ : fhM} {t : Nat} {k v : Int32} : fr (fun a _ => a = t + 1) σ (fcP σ t k v) := fr_P fr_rf (fun _ => rfl)
theorem fpl_P {D : Nat → Prop} {σ σ' : fhM} {t : Nat} {k v : Int32} (h : fpl D σ σ') (hd : D (t + 1)) : fpl D σ (fcP σ' t k v) := fpl_tr h (fpl_r fcP_fr (fun a _ e => by rw [e]; exact hd))
def pD (P t : Nat) : Prop := t = 3 ∨ t = 5 ∨ t = 9 ∨ (P ≤ t ∧ t ≤ P + 11)
theorem cF_fr {e : Nat × Nat} {σ σ' : fhM} (h : cF e σ) (hf : ∀ j, σ'.1 3 j = σ.1 3 j) : cF e σ' := by
  obtain ⟨h1, h2, h3, h4⟩ := h
  exact ⟨by rw [hf]; exact h1, by rw [hf]; exact h2, by rw [hf]; exact h3, h4⟩
/-- where a statement may have come to -/
def cSt (T : tT) (m P : Nat) (p : fhPS) (k : Nat) (σ : fhM) : Prop := cP T m k σ ∧ k ≤ m ∧ sOK T p k ∧ ∃ out, cRp P p out σ ∧ out.length ≤ k
def cRes (T : tT) (m P : Nat) (r : gS) (s : fhM) : Prop := match r with
  | .inl e => cF e s
  | .inr x => cSt T m P x.2 x.1 s
section
variable {T : tT} {m P : Nat}
theorem cs_semiN (hP : fhiP P = true) {e : Nat × Nat} {σ : fhM} (h : cF e σ) : wq (f_X7_readStatement_133 P σ) (fun s => cF e s ∧ fpl (pD P) σ s) := by
  have hp := ph_P hP
  unfold f_X7_readStatement_133
  rw [wq_let, wq_some, c_takeSignN h]
  exact ⟨cF_fr h (fun j => fhI_o (by omega)), fpl_I fpl_rf (by unfold pD; omega)⟩
theorem cs_semi (hT : tOK T) (hm : tend T m) (hP : fhiP P = true) {k : Nat} {p : fhPS} {out : gC} {σ : fhM} (h : cP T m k σ) (hk : k ≤ m) (hr : cRp P p out σ) (hl : out.length ≤ k) (hn : p.n < 60) (ho : sOK T (fhPS.wn p (p.n + 1)) (k + 1) ∨ ¬ isg T k 59) : wq (f_X7_readStatement_133 P σ) (fun s => cRes T m P (semi T k p) s ∧ fpl (pD P) σ s) := by
  have hp := ph_P hP
  unfold f_X7_readStatement_133
  rw [wq_let, wq_some]
  obtain ⟨a, b, c⟩ := c_takeSign (c := 59) hT hm h (by decide)
  have c : fr cDf σ (f_X8_takeSign (59 : Int32) σ) := c
  have hf : ∀ t j, t ≠ 3 → (f_X8_takeSign (59 : Int32) σ).1 t j = σ.1 t j := fun t j ht => c.2 t j (by unfold cDf; omega)
  refine ⟨?_, fpl_I (fpl_r c (fun t j z => by unfold cDf at z; unfold pD; omega)) (by unfold pD; omega)⟩
  by_cases q : isg T k 59
  · have ho : sOK T (fhPS.wn p (p.n + 1)) (k + 1) := ho.elim id (fun z => absurd q z)
    have a : cP T m (k + 1) (f_X8_takeSign (59 : Int32) σ) := a q
    have hkm := c_kd hm (isg_k q)
    have hr2 : cRp P p out (f_X8_takeSign (59 : Int32) σ) := cRp_fr hr (fun t j h1 h2 => hf t j (by omega))
    unfold semi
    rw [gif_t q]
    refine ⟨cP_fr a (fun j => fhI_o (by omega)) (fun j => fhI_o (by omega)), by omega, ho, out, ?_, by show out.length ≤ k + 1; omega⟩
    obtain ⟨h1, h2, h3, h4, h5, h6, h7, h8, h9, h10, h11, h12⟩ := hr2
    refine ⟨?_, ?_, cN_fr h3 ?_ ?_, ?_, ?_, ?_, ?_, ?_, ?_, cTs_fr h10 ?_, cTs_fr h11 ?_, cS_fr h12 ?_ ?_⟩
    · rw [fhI_e, h1, nI_1]
    · simp (disch := omega) only [fhI_e, fhI_o, fhI_s]; exact h2
    · simp (disch := omega) only [fhI_e, fhI_o, fhI_s]
    · intro i; simp (disch := omega) only [fhI_e, fhI_o, fhI_s]
    · simp (disch := omega) only [fhI_e, fhI_o, fhI_s]; exact h4
    · simp (disch := omega) only [fhI_e, fhI_o, fhI_s]; exact h5
    · simp (disch := omega) only [fhI_e, fhI_o, fhI_s]; exact h6
    · simp (disch := omega) only [fhI_e, fhI_o, fhI_s]; exact h7
    · simp (disch := omega) only [fhI_e, fhI_o, fhI_s]; exact h8
    · intro a ha; simp (disch := omega) only [fhI_e, fhI_o, fhI_s]; exact h9 a ha
    · intro j; simp (disch := omega) only [fhI_e, fhI_o, fhI_s]
    · intro j; simp (disch := omega) only [fhI_e, fhI_o, fhI_s]
    · simp (disch := omega) only [fhI_e, fhI_o, fhI_s]
    · intro i; simp (disch := omega) only [fhI_e, fhI_o, fhI_s]
  · unfold semi
    rw [gif_f q]
    exact cF_fr (b q) (fun j => fhI_o (by omega))
end
