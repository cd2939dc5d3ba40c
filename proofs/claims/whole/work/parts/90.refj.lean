/-! THE REFERENCE'S TESTS, in step with the grammar -/
/-- what the reference comes to -/
def rX (T : tT) (q : Bool) (nl : List (List Nat)) (o : Nat) (out : gC) (wt : List Nat) (r : (Nat × Nat) ⊕ (Nat × gC)) (s : fhM) : Prop := match r with
  | .inl e => tF e s
  | .inr x => rG T q nl o x.1 (out ++ x.2) wt 0 s
def hn (wt : List Nat) (S : List Nat) : Prop := ∀ u, wt.head? = some u → u ∉ S
theorem hn_c {u : Nat} {wt S : List Nat} (h : u ∉ S) : hn (u :: wt) S := fun x hx => by cases hx; exact h
def RT2 (T : tT) (q : Bool) (nl : List (List Nat)) (n : Nat) : Prop := ∀ (o k : Nat) (r : (Nat × Nat) ⊕ (Nat × gC)), rd T q nl n 2 o k = some r → ∀ (out : gC) (wt : List Nat) (σ : fhM) (Q : fhM → Prop), rG T q nl o k out wt 0 σ → o ≤ 6 → hn wt [1, 2, 3, 4] →
  (∀ e, r = .inl e → tQ σ Q e) → (∀ k' c, r = .inr (k', c) → ∀ s, rG T q nl o k' (out ++ c) wt 0 s → fr rD σ s → wq (tA s) Q) → wq (tLS (1, σ)) Q
def RT1 (T : tT) (q : Bool) (nl : List (List Nat)) (n : Nat) : Prop := ∀ (o k : Nat) (r : (Nat × Nat) ⊕ (Nat × gC)), rd T q nl n 1 o k = some r → ∀ (out : gC) (wt : List Nat) (σ : fhM) (Q : fhM → Prop), rG T q nl o k out wt 0 σ → o ≤ 6 → hn wt [1, 2, 3, 4, 10, 12] →
  (∀ e, r = .inl e → tQ σ Q e) → (∀ k' c, r = .inr (k', c) → ∀ (out' : gC) (pa : List Nat) (s : fhM), (∀ x ∈ pa, x = 10) → out' ++ pa.map rDec = out ++ c → ¬ isw T k' 21 → rG T q nl o k' out' (pa ++ wt) 0 s → fr rD σ s → wq (tG s) Q) → wq (tLS (1, σ)) Q
def RT7 (T : tT) (q : Bool) (nl : List (List Nat)) (n : Nat) : Prop := ∀ (o k : Nat) (r : (Nat × Nat) ⊕ (Nat × gC)), rd T q nl n 7 o k = some r → ∀ (out : gC) (pa wt : List Nat) (σ : fhM) (Q : fhM → Prop), (∀ x ∈ pa, x = 10) → rG T q nl o k out (pa ++ wt) 0 σ → o ≤ 6 → hn wt [1, 2, 3, 4, 10, 12] →
  (∀ e, r = .inl e → tQ σ Q e) → (∀ k' c, r = .inr (k', c) → ∀ (out' : gC) (pa' : List Nat) (s : fhM), (∀ x ∈ pa', x = 10) → out' ++ pa'.map rDec = out ++ pa.map rDec ++ c → ¬ isw T k' 21 → rG T q nl o k' out' (pa' ++ wt) 0 s → fr rD σ s → wq (tG s) Q) → wq (tG σ) Q
def RT0 (T : tT) (q : Bool) (nl : List (List Nat)) (n : Nat) : Prop := ∀ (o k : Nat) (r : (Nat × Nat) ⊕ (Nat × gC)), rd T q nl n 0 o k = some r → ∀ (out : gC) (wt : List Nat) (σ : fhM) (Q : fhM → Prop), rG T q nl o k out wt 0 σ → o ≤ 6 → hn wt [1, 2, 3, 4, 10, 11, 12] →
  (∀ e, r = .inl e → tQ σ Q e) → (∀ k' c, r = .inr (k', c) → ∀ (out' : gC) (pn : List Nat) (s : fhM), (∀ x ∈ pn, x = 10 ∨ x = 11) → out' ++ pn.map rDec = out ++ c → ¬ isw T k' 21 → ¬ isw T k' 20 → rG T q nl o k' out' (pn ++ wt) 0 s → fr rD σ s → wq (tG s) Q) → wq (tLS (1, σ)) Q
def RT6 (T : tT) (q : Bool) (nl : List (List Nat)) (n : Nat) : Prop := ∀ (o k : Nat) (r : (Nat × Nat) ⊕ (Nat × gC)), rd T q nl n 6 o k = some r → ∀ (out : gC) (pn wt : List Nat) (σ : fhM) (Q : fhM → Prop), (∀ x ∈ pn, x = 10 ∨ x = 11) → rG T q nl o k out (pn ++ wt) 0 σ → o ≤ 6 → hn wt [1, 2, 3, 4, 10, 11, 12] → ¬ isw T k 21 →
  (∀ e, r = .inl e → tQ σ Q e) → (∀ k' c, r = .inr (k', c) → ∀ (out' : gC) (pn' : List Nat) (s : fhM), (∀ x ∈ pn', x = 10 ∨ x = 11) → out' ++ pn'.map rDec = out ++ pn.map rDec ++ c → ¬ isw T k' 21 → ¬ isw T k' 20 → rG T q nl o k' out' (pn' ++ wt) 0 s → fr rD σ s → wq (tG s) Q) → wq (tG σ) Q
section
variable {T : tT} {q : Bool} {nl : List (List Nat)} {n : Nat}
/-- what stands behind an operator's operand -/
theorem sq_rest {op w o j : Nat} {c : gC} {r : (Nat × Nat) ⊕ (Nat × gC)} (h2 : (∃ e, sq (gok j [(op, 0)]) (fun k => rd T q nl n w o k) = some (.inl e) ∧ r = .inl e) ∨ ∃ k2 c2, sq (gok j [(op, 0)]) (fun k => rd T q nl n w o k) = some (.inr (k2, c2)) ∧ r = .inr (k2, c ++ c2)) :
    ∃ y, rd T q nl n w o j = some y ∧ ((∃ e, y = .inl e ∧ r = .inl e) ∨ ∃ k2 c2, y = .inr (k2, c2) ∧ r = .inr (k2, c ++ ([(op, 0)] ++ c2))) := by
  rcases h2 with ⟨e, h2, rfl⟩ | ⟨k2, c2, h2, rfl⟩
  · rcases sq_some h2 with ⟨e2, h3, e1⟩ | ⟨j2, c3, h3, h4⟩
    · cases h3
    · cases h3
      rcases h4 with ⟨e2, h4, e1⟩ | ⟨k3, c4, h4, e1⟩
      · cases e1; exact ⟨_, h4, Or.inl ⟨_, rfl, rfl⟩⟩
      · cases e1
  · rcases sq_some h2 with ⟨e2, h3, e1⟩ | ⟨j2, c3, h3, h4⟩
    · cases h3
    · cases h3
      rcases h4 with ⟨e2, h4, e1⟩ | ⟨k3, c4, h4, e1⟩
      · cases e1
      · cases e1; exact ⟨_, h4, Or.inr ⟨_, _, rfl, rfl⟩⟩
theorem RT7_s (hT : tOK T) (h2 : RT2 T q nl n) (h7 : RT7 T q nl n) : RT7 T q nl (n + 1) := by
  intro o k r hr out pa wt σ Q hpa h ho hc hQ go
  have hr : gif (isw T k 21) _ _ = some r := hr
  rcases gif_some hr with ⟨q1, hr⟩ | ⟨q1, hr⟩
  · refine tG_and hT h hpa (fun u hu z => hc u hu (by rw [z]; decide)) (Nat.zero_le _) q1 (fun s hs hf => ?_)
    rcases sq_some hr with ⟨e, h1, rfl⟩ | ⟨j, c, h1, h3⟩
    · exact h2 o (k + 1) _ h1 _ _ s Q hs ho (hn_c (by decide)) (fun e2 he => by cases he; exact tQ_tr (hQ e rfl) hf) (fun k' c he => by cases he)
    · obtain ⟨y, h4, h5⟩ := sq_rest h3
      refine h2 o (k + 1) _ h1 _ _ s Q hs ho (hn_c (by decide)) (fun e2 he => by cases he) (fun k' c' he s2 hs2 hf2 => ?_)
      cases he
      refine tA_G hT hs2 (fun u hu => by cases hu; decide) ?_
      refine h7 o j y h4 _ [10] wt s2 Q (fun x hx => List.mem_singleton.mp hx) hs2 ho hc (fun e he => ?_) (fun k' c' he out' pm' s3 hp' heq n21 hs3 hf3 => ?_)
      · rcases h5 with ⟨e2, rfl, rfl⟩ | ⟨k2, c2, rfl, _⟩
        · cases he; exact tQ_tr (hQ e rfl) (fr_tr hf hf2)
        · cases he
      · rcases h5 with ⟨e2, rfl, _⟩ | ⟨k2, c2, rfl, rfl⟩
        · cases he
        · cases he
          refine go k' _ rfl out' pm' s3 hp' ?_ n21 hs3 (fr_tr (fr_tr hf hf2) hf3)
          rw [heq, List.map_singleton, show rDec 10 = (13, 0) from rfl]
          simp only [List.append_assoc]
  · exact go k [] (gok_some hr) out pa σ hpa (by rw [List.append_nil]) q1 h fr_rf
theorem RT1_s (hT : tOK T) (h2 : RT2 T q nl n) (h7 : RT7 T q nl n) : RT1 T q nl (n + 1) := by
  intro o k r hr out wt σ Q h ho hc hQ go
  have hr : sq (rd T q nl n 2 o k) (fun k => rd T q nl n 7 o k) = some r := hr
  have hc2 : hn wt [1, 2, 3, 4] := fun u hu z => hc u hu (by simp at z ⊢; omega)
  rcases sq_some hr with ⟨e, h1, rfl⟩ | ⟨j, c, h1, h3⟩
  · exact h2 o k _ h1 _ _ σ Q h ho hc2 (fun e2 he => by cases he; exact hQ e rfl) (fun k' c he => by cases he)
  · refine h2 o k _ h1 _ _ σ Q h ho hc2 (fun e2 he => by cases he) (fun k' c' he s2 hs2 hf2 => ?_)
    cases he
    refine tA_G hT hs2 (fun u hu z => hc u hu (by rw [z]; decide)) ?_
    rcases h3 with ⟨e, h3, rfl⟩ | ⟨k2, c2, h3, rfl⟩
    · exact h7 o j _ h3 _ [] wt s2 Q (fun x hx => by cases hx) hs2 ho hc (fun e2 he => by cases he; exact tQ_tr (hQ e rfl) hf2) (fun k' c' he => by cases he)
    · refine h7 o j _ h3 _ [] wt s2 Q (fun x hx => by cases hx) hs2 ho hc (fun e2 he => by cases he) (fun k' c' he out' pm' s3 hp' heq n21 hs3 hf3 => ?_)
      cases he
      refine go k2 _ rfl out' pm' s3 hp' ?_ n21 hs3 (fr_tr hf2 hf3)
      rw [heq, List.map_nil, List.append_nil, List.append_assoc]
theorem RT6_s (hT : tOK T) (h1' : RT1 T q nl n) (h6 : RT6 T q nl n) : RT6 T q nl (n + 1) := by
  intro o k r hr out pn wt σ Q hpn h ho hc n21 hQ go
  have hr : gif (isw T k 20) _ _ = some r := hr
  rcases gif_some hr with ⟨q1, hr⟩ | ⟨q1, hr⟩
  · refine tG_or hT h hpn (fun u hu => ⟨fun z => hc u hu (by rw [z]; decide), fun z => hc u hu (by rw [z]; decide)⟩) (Nat.zero_le _) q1 (fun s hs hf => ?_)
    rcases sq_some hr with ⟨e, h1, rfl⟩ | ⟨j, c, h1, h3⟩
    · exact h1' o (k + 1) _ h1 _ _ s Q hs ho (hn_c (by decide)) (fun e2 he => by cases he; exact tQ_tr (hQ e rfl) hf) (fun k' c he => by cases he)
    · obtain ⟨y, h4, h5⟩ := sq_rest h3
      refine h1' o (k + 1) _ h1 _ _ s Q hs ho (hn_c (by decide)) (fun e2 he => by cases he) (fun k' c' he out2 pa s2 hp2 heq2 m21 hs2 hf2 => ?_)
      cases he
      have hs2' : rG T q nl o j out2 ((pa ++ [11]) ++ wt) 0 s2 := by rw [List.append_assoc]; exact hs2
      have hpu : ∀ x ∈ pa ++ [11], x = 10 ∨ x = 11 := by
        intro x hx
        rcases List.mem_append.mp hx with z | z
        · exact Or.inl (hp2 x z)
        · exact Or.inr (List.mem_singleton.mp z)
      refine h6 o j y h4 _ (pa ++ [11]) wt s2 Q hpu hs2' ho hc m21 (fun e he => ?_) (fun k' c' he out' pm' s3 hp' heq x21 x20 hs3 hf3 => ?_)
      · rcases h5 with ⟨e2, rfl, rfl⟩ | ⟨k2, c2, rfl, _⟩
        · cases he; exact tQ_tr (hQ e rfl) (fr_tr hf hf2)
        · cases he
      · rcases h5 with ⟨e2, rfl, _⟩ | ⟨k2, c2, rfl, rfl⟩
        · cases he
        · cases he
          refine go k' _ rfl out' pm' s3 hp' ?_ x21 x20 hs3 (fr_tr (fr_tr hf hf2) hf3)
          rw [heq, List.map_append, List.map_singleton, show rDec 11 = (14, 0) from rfl, ← List.append_assoc out2, heq2]
          simp only [List.append_assoc]
  · exact go k [] (gok_some hr) out pn σ hpn (by rw [List.append_nil]) n21 q1 h fr_rf
theorem RT0_s (hT : tOK T) (h1' : RT1 T q nl n) (h6 : RT6 T q nl n) : RT0 T q nl (n + 1) := by
  intro o k r hr out wt σ Q h ho hc hQ go
  have hr : sq (rd T q nl n 1 o k) (fun k => rd T q nl n 6 o k) = some r := hr
  have hc2 : hn wt [1, 2, 3, 4, 10, 12] := fun u hu z => hc u hu (by simp at z ⊢; omega)
  rcases sq_some hr with ⟨e, h1, rfl⟩ | ⟨j, c, h1, h3⟩
  · exact h1' o k _ h1 _ _ σ Q h ho hc2 (fun e2 he => by cases he; exact hQ e rfl) (fun k' c he => by cases he)
  · refine h1' o k _ h1 _ _ σ Q h ho hc2 (fun e2 he => by cases he) (fun k' c' he out2 pa s2 hp2 heq2 m21 hs2 hf2 => ?_)
    cases he
    have hpu : ∀ x ∈ pa, x = 10 ∨ x = 11 := fun x hx => Or.inl (hp2 x hx)
    rcases h3 with ⟨e, h3, rfl⟩ | ⟨k2, c2, h3, rfl⟩
    · exact h6 o j _ h3 _ pa wt s2 Q hpu hs2 ho hc m21 (fun e2 he => by cases he; exact tQ_tr (hQ e rfl) hf2) (fun k' c' he => by cases he)
    · refine h6 o j _ h3 _ pa wt s2 Q hpu hs2 ho hc m21 (fun e2 he => by cases he) (fun k' c' he out' pm' s3 hp' heq x21 x20 hs3 hf3 => ?_)
      cases he
      refine go k2 _ rfl out' pm' s3 hp' ?_ x21 x20 hs3 (fr_tr hf2 hf3)
      rw [heq, heq2, List.append_assoc]
/-- a FACT that is no bracket and no not -/
theorem r_fact (hT : tOK T) {o k : Nat} {r : (Nat × Nat) ⊕ (Nat × gC)} {out : gC} {wt : List Nat} {σ : fhM} (h : rG T q nl o k out wt 0 σ) (ho : o ≤ 6) (hc : hn wt [1, 2, 3, 4])
    (hr : gif (isw T k 23) (gok (k + 1) [(15, 1)]) (sq (rd T q nl n 3 o k) (fun k => gif (isg T k 60) (sq (rd T q nl n 3 o (k + 1)) (fun k => gok k [(10, 0)])) (gif (isg T k 62) (sq (rd T q nl n 3 o (k + 1)) (fun k => gok k [(11, 0)])) (gif (isg T k 61) (sq (rd T q nl n 3 o (k + 1)) (fun k => gok k [(12, 0)])) (gbad 1 (fm T k)))))) = some r) :
    wq (f_X12_qFact σ) (fun s => rX T q nl o (out) wt r s ∧ fr rD σ s) := by
  have hT2 := hT.1
  have hwt : ∀ u, wt.head? = some u → u ≠ 3 ∧ u ≠ 4 ∧ u ≠ 1 ∧ u ≠ 2 := fun u hu => by have := hc u hu; simp at this; omega
  have hl := h.2.2.2.2.2.1
  unfold f_X12_qFact
  rw [wq_bind]
  refine wq_mono (r_ta61 hT h.1 h.2.2.1) ?_
  rintro ⟨c, s⟩ ⟨hcc, hp, hnn, hf⟩
  dsimp only at hcc hp hnn hf ⊢
  rcases gif_some hr with ⟨q1, hr⟩ | ⟨q1, hr⟩
  · have hkn := kd_num (isw_k q1)
    have hs := rG_m h (hp q1) (Nat.le_succ k) (by omega) hf
    rw [if_pos (hcc.mpr q1), wq_bind, gok_some hr]
    have := r_code hT hs (15, 1) (by omega)
    exact wq_mono this (fun s2 p2 => by rw [wq_some]; exact ⟨p2.1, fr_tr (fr_mo hf (fun _ _ => mD_r)) p2.2⟩)
  · have hs := rG_m h (hnn q1).1 (Nat.le_refl _) h.2.1 hf
    have hf' := fr_mo hf (fun _ _ => mD_r)
    rw [if_neg (fun z => q1 (hcc.mp z)), wq_bind]
    rcases sq_some hr with ⟨e, h1, rfl⟩ | ⟨j, c1, h1, h3⟩
    · refine wq_mono (r_sums hT h1 hs ho hwt) (fun s2 p2 => ?_)
      have hF : rF e s2 := p2.1
      rw [if_neg (rF_n hF), wq_some]
      exact ⟨rF_t hF, fr_tr hf' p2.2⟩
    · have hfit : k + 1 ≤ j ∧ k + c1.length ≤ j := rd_fit T q nl n 3 o k _ h1
      refine wq_mono (r_sums hT h1 hs ho hwt) (fun s2 p2 => ?_)
      have hs2 : rG T q nl o j (out ++ c1) wt 0 s2 := p2.1
      rw [if_pos (rG_bad hs2), wq_bind]
      refine wq_mono (m_look hT hs2.1) ?_
      rintro ⟨c3, s3⟩ ⟨hc3, hA3, hf3⟩
      have hc3 : c3 = mc T j := hc3
      have hA3 : mA T j s3 := hA3
      have hf3 : fr mD s2 s3 := hf3
      have hs3 := rG_m hs2 hA3.1 (Nat.le_refl _) hs2.2.1 hf3
      have hff : fr rD σ s3 := fr_tr (fr_tr hf' p2.2) (fr_mo hf3 (fun _ _ => mD_r))
      dsimp only
      rw [hc3]
      have m60 : mc T j = (60 : Int32) ↔ isg T j 60 := m_sg (c := 60) hT rfl (by decide)
      have m62 : mc T j = (62 : Int32) ↔ isg T j 62 := m_sg (c := 62) hT rfl (by decide)
      have m61 : mc T j = (61 : Int32) ↔ isg T j 61 := m_sg (c := 61) hT rfl (by decide)
      -- behind the sign
      have go : ∀ (cc op : Nat), isg T j cc → cc = 60 ∧ op = 10 ∨ cc = 62 ∧ op = 11 ∨ cc = 61 ∧ op = 12 → ∀ x, sq (rd T q nl n 3 o (j + 1)) (fun k => gok k [(op, 0)]) = some x → wq (f_X12_qFact_63 (mc T j) s3) (fun s => rX T q nl o (out ++ c1) wt x s ∧ fr rD σ s) := by
        intro cc op hg hcs x hx
        have hjn := kd_num (isg_k hg)
        have hl3 := hs3.2.2.2.2.2.1
        have hcc256 : tS cc = 3 ∧ cc < 256 := by rcases hcs with ⟨rfl, -⟩ | ⟨rfl, -⟩ | ⟨rfl, -⟩ <;> exact ⟨rfl, by decide⟩
        have hmc : mc T j = nI cc := (m_sg hT hcc256.1 hcc256.2).mpr hg
        have e1 : s3.1 0 2 + (1 : Int32) = nI (to T j) := by rw [hA3.2, nI_1, isg_to hg]
        have hp4 := mP_nextS hT hA3.1 hg.1
        have f4 : fr mD s3 (fhI s3 0 2 (nI (to T j))) := fr_I fr_rf ⟨rfl, by omega⟩
        have hs4 := rG_m hs3 hp4 (Nat.le_succ j) (by omega) f4
        have hf4 := fr_tr hff (fr_mo f4 (fun _ _ => mD_r))
        have hcode : (if nI cc = (60 : Int32) then (7 : Int32) else (if nI cc = (62 : Int32) then (8 : Int32) else (9 : Int32))) = nI (rEnc (op, 0)) := by
          rcases hcs with ⟨rfl, rfl⟩ | ⟨rfl, rfl⟩ | ⟨rfl, rfl⟩ <;> rfl
        unfold f_X12_qFact_63 f_X12_qFact_102
        rw [hmc, e1, hcode, wq_bind]
        rcases sq_some hx with ⟨e, g1, rfl⟩ | ⟨j2, c2, g1, g2⟩
        · refine wq_mono (r_sums hT g1 hs4 ho hwt) (fun s5 p5 => ?_)
          have hF : rF e s5 := p5.1
          obtain ⟨L, l1, l2⟩ := hF.2.2.2
          rw [wq_bind]
          refine wq_mono (rF_code hF l1 l2 _) (fun s6 p6 => ?_)
          rw [wq_some]
          exact ⟨⟨p6.1, hF.2.1, hF.2.2.1⟩, fr_tr (fr_tr hf4 p5.2) p6.2.1⟩
        · have hfit2 : j + 1 + 1 ≤ j2 ∧ j + 1 + c2.length ≤ j2 := rd_fit T q nl n 3 o (j + 1) _ g1
          refine wq_mono (r_sums hT g1 hs4 ho hwt) (fun s5 p5 => ?_)
          have hs5 : rG T q nl o j2 (out ++ c1 ++ c2) wt 0 s5 := p5.1
          rw [wq_bind]
          refine wq_mono (r_code hT hs5 (op, 0) (by rw [List.length_append]; omega)) (fun s6 p6 => ?_)
          rw [wq_some]
          rcases g2 with ⟨e, g2, rfl⟩ | ⟨k2, c4, g2, rfl⟩
          · cases g2
          · cases g2
            refine ⟨?_, fr_tr (fr_tr hf4 p5.2) p6.2⟩
            have : rG T q nl o _ (out ++ c1 ++ c2 ++ [(op, 0)]) wt 0 s6 := p6.1
            rw [List.append_assoc] at this
            exact this
      have tail : ∀ x, (∃ e, x = .inl e ∧ r = .inl e) ∨ (∃ k2 c2, x = .inr (k2, c2) ∧ r = .inr (k2, c1 ++ c2)) → wq (f_X12_qFact_63 (mc T j) s3) (fun s => rX T q nl o (out ++ c1) wt x s ∧ fr rD σ s) → wq (f_X12_qFact_63 (mc T j) s3) (fun s => rX T q nl o (out) wt r s ∧ fr rD σ s) := by
        intro x hx hw
        refine wq_mono hw (fun z hz => ?_)
        rcases hx with ⟨e, rfl, rfl⟩ | ⟨k2, c2, rfl, rfl⟩
        · exact hz
        · refine ⟨?_, hz.2⟩
          have : rG T q nl o k2 (out ++ c1 ++ c2) wt 0 z := hz.1
          rw [List.append_assoc] at this
          exact this
      have hx : ∃ x, (gif (isg T j 60) (sq (rd T q nl n 3 o (j + 1)) (fun k => gok k [(10, 0)])) (gif (isg T j 62) (sq (rd T q nl n 3 o (j + 1)) (fun k => gok k [(11, 0)])) (gif (isg T j 61) (sq (rd T q nl n 3 o (j + 1)) (fun k => gok k [(12, 0)])) (gbad 1 (fm T j))))) = some x ∧ ((∃ e, x = .inl e ∧ r = .inl e) ∨ (∃ k2 c2, x = .inr (k2, c2) ∧ r = .inr (k2, c1 ++ c2))) := by
        rcases h3 with ⟨e, h3, h4⟩ | ⟨k2, c2, h3, h4⟩
        · exact ⟨_, h3, Or.inl ⟨e, rfl, h4⟩⟩
        · exact ⟨_, h3, Or.inr ⟨k2, c2, rfl, h4⟩⟩
      obtain ⟨x, hx1, hx2⟩ := hx
      rcases gif_some hx1 with ⟨z1, hx1⟩ | ⟨z1, hx1⟩
      · rw [if_pos (m60.mpr z1)]
        exact tail x hx2 (go 60 10 z1 (Or.inl ⟨rfl, rfl⟩) x hx1)
      rw [if_neg (fun y => z1 (m60.mp y))]
      rcases gif_some hx1 with ⟨z2, hx1⟩ | ⟨z2, hx1⟩
      · rw [if_pos (m62.mpr z2)]
        exact tail x hx2 (go 62 11 z2 (Or.inr (Or.inl ⟨rfl, rfl⟩)) x hx1)
      rw [if_neg (fun y => z2 (m62.mp y))]
      rcases gif_some hx1 with ⟨z3, hx1⟩ | ⟨z3, hx1⟩
      · rw [if_pos (m61.mpr z3)]
        exact tail x hx2 (go 61 12 z3 (Or.inr (Or.inr ⟨rfl, rfl⟩)) x hx1)
      · rw [if_neg (fun y => z3 (m61.mp y)), wq_let, wq_some, hA3.2]
        obtain ⟨a, f⟩ := m_fail (q := (1, fm T j)) (rG_bad hs3)
        have hrx : r = .inl (1, fm T j) := by
          rw [gbad_some hx1] at hx2
          rcases hx2 with ⟨e, e1, e2⟩ | ⟨k2, c2, e1, _⟩
          · cases e1; exact e2
          · cases e1
        subst hrx
        exact ⟨⟨a, Nat.le_refl _, Nat.le_of_ble_eq_true rfl⟩, fr_tr hff (fr_mo f (fun _ _ => mD_r))⟩
theorem RT2_s (hT : tOK T) (h0 : RT0 T q nl n) (h2 : RT2 T q nl n) : RT2 T q nl (n + 1) := by
  intro o k r hr out wt σ Q h ho hc hQ go
  have hr : gif (isg T k 91) _ _ = some r := hr
  have hT2 := hT.1
  unfold tLS
  refine wq_step ?_
  dsimp only
  unfold f_X12_qTest_2
  rw [if_neg (by decide), if_pos (rG_bad h), wq_bind]
  refine wq_mono (m_look hT h.1) ?_
  rintro ⟨c, s⟩ ⟨hcc, hA, hf⟩
  have hcc : c = mc T k := hcc
  have hA : mA T k s := hA
  have hf : fr mD σ s := hf
  have hs := rG_m h hA.1 (Nat.le_refl _) h.2.1 hf
  have hf' := fr_mo hf (fun _ _ => mD_r)
  dsimp only
  rw [hcc]
  rcases gif_some hr with ⟨q1, hr⟩ | ⟨q1, hr⟩
  · have hkn := kd_num (isg_k q1)
    rw [if_pos (show mc T k = (91 : Int32) from (m_sg (c := 91) hT rfl (by decide)).mpr q1), wq_bind, hA.2]
    obtain ⟨p6, p5⟩ := r_opens (v := 25) (p := fm T k) hT hs ho (by decide) hkn
    by_cases z : 6 ≤ o
    · obtain ⟨s2, e1, e2, e3⟩ := p6 z
      rw [if_pos z] at hr
      refine wq_of e1 ?_
      rw [wq_some, fhK_l]
      have hF : rF (4, fm T k) s2 := rF_of hT hs e2 (Nat.le_of_ble_eq_true rfl) (Nat.le_of_ble_eq_true rfl) (e3.2 0 99 (by unfold mD; omega))
      obtain ⟨a1, a2⟩ := rF_at hF (fr_mo (fr_tr hf e3) (fun _ _ => mD_r)) (s2.1 0 2 + (1 : Int32))
      exact tLS_q (hQ _ (gbad_some hr)) (rF_t a1) a2
    · obtain ⟨s2, e1, e2, e3, e4⟩ := p5 (by omega)
      rw [if_neg z] at hr
      refine wq_of e1 ?_
      rw [wq_some, fhK_l]
      have hp2 := r_omP hA.1 e2
      have e : s2.1 0 2 + (1 : Int32) = nI (to T k) := by rw [e2.2 0 2 (by omega), hA.2, nI_1, isg_to q1]
      rw [e]
      have hp3 := mP_nextS hT hp2 q1.1
      have f3 : fr mD s2 (fhI s2 0 2 (nI (to T k))) := fr_I fr_rf ⟨rfl, by omega⟩
      have hs3 := r_opened hs e2 e3 e4 hp3 f3 (by omega) (by omega)
      have hf3 := fr_tr (fr_tr hf' (r_ofr e2)) (fr_mo f3 (fun _ _ => mD_r))
      generalize fhI s2 0 2 (nI (to T k)) = s3 at hs3 hf3
      have main : wq (tLS (1, s3)) Q := by
        rcases sq_some hr with ⟨e, h1, rfl⟩ | ⟨j, c1, h1, h3⟩
        · exact h0 (o + 1) (k + 1) _ h1 _ _ s3 Q hs3 (by omega) (hn_c (by decide)) (fun e2 he => by cases he; exact tQ_tr (hQ e rfl) hf3) (fun k' c he => by cases he)
        · refine h0 (o + 1) (k + 1) _ h1 _ _ s3 Q hs3 (by omega) (hn_c (by decide)) (fun e2 he => by cases he) (fun k' c' he out2 pn s4 hp4 heq n21 n20 hs4 hf4 => ?_)
          cases he
          by_cases z2 : isg T j 93
          · refine tG_close hT hs4 hp4 (Nat.zero_le _) z2 (fun s5 hs5 hf5 => ?_)
            rw [heq] at hs5
            rcases h3 with ⟨e, h3, rfl⟩ | ⟨k2, c2, h3, rfl⟩
            · rcases sgn_some h3 with ⟨_, e3⟩ | ⟨y, e3⟩
              · cases e3
              · exact absurd z2 y
            · rcases sgn_some h3 with ⟨_, e3⟩ | ⟨y, e3⟩
              · cases e3
                exact go _ _ rfl s5 (by rw [List.append_nil]; exact hs5) (fr_tr (fr_tr hf3 hf4) hf5)
              · exact absurd z2 y
          · have hmem : 25 ∈ pn ++ 25 :: wt := List.mem_append_right _ List.mem_cons_self
            refine tG_none hT hs4 n20 n21 (Or.inl z2) (fun _ => ?_) (fun y => absurd hmem y)
            rcases h3 with ⟨e, h3, rfl⟩ | ⟨k2, c2, h3, rfl⟩
            · rcases sgn_some h3 with ⟨y, e3⟩ | ⟨y, e3⟩
              · exact absurd y z2
              · cases e3
                exact tQ_tr (hQ _ rfl) (fr_tr hf3 hf4)
            · rcases sgn_some h3 with ⟨y, e3⟩ | ⟨_, e3⟩
              · exact absurd y z2
              · cases e3
      exact main
  rw [if_neg (show ¬ mc T k = (91 : Int32) from fun y => q1 ((m_sg (c := 91) hT rfl (by decide)).mp y)), wq_bind]
  refine wq_mono (r_is58 hT hA.1 hs.2.2.1) ?_
  rintro ⟨c2, s2⟩ ⟨hc2, hA2, hf2⟩
  dsimp only at hc2 hA2 hf2 ⊢
  have hs2 := rG_m hs hA2.1 (Nat.le_refl _) h.2.1 hf2
  have hf2' : fr mD σ s2 := fr_tr hf hf2
  rcases gif_some hr with ⟨q2, hr⟩ | ⟨q2, hr⟩
  · have hkn := kd_num (isw_k q2)
    rw [if_pos (hc2.mpr q2), wq_bind, hA2.2]
    obtain ⟨p6, p5⟩ := r_opens (v := 12) (p := fm T k) hT hs2 ho (by decide) hkn
    by_cases z : 6 ≤ o
    · obtain ⟨s3, e1, e2, e3⟩ := p6 z
      rw [if_pos z] at hr
      have hF : rF (4, fm T k) s3 := rF_of hT hs2 e2 (Nat.le_of_ble_eq_true rfl) (Nat.le_of_ble_eq_true rfl) (e3.2 0 99 (by unfold mD; omega))
      refine wq_of e1 ?_
      rw [wq_bind, m_asksN (rF_n hF), wq_some, wq_some, fhK_l]
      exact tLS_q (hQ _ (gbad_some hr)) (rF_t hF) (fr_mo (fr_tr hf2' e3) (fun _ _ => mD_r))
    · obtain ⟨s3, e1, e2, e3, e4⟩ := p5 (by omega)
      rw [if_neg z] at hr
      refine wq_of e1 ?_
      rw [wq_bind]
      refine wq_mono (r_as58 hT (r_omP hA2.1 e2) (r_omW hs2.2.2.1 e2)) (fun s4 p4 => ?_)
      rw [wq_some, fhK_l]
      have hs4 := r_opened hs2 e2 e3 e4 (p4.1 q2) p4.2.2 (by omega) (by omega)
      have hf4 := fr_tr (fr_tr (fr_mo hf2' (fun _ _ => mD_r)) (r_ofr e2)) (fr_mo p4.2.2 (fun _ _ => mD_r))
      have main : wq (tLS (1, s4)) Q := by
        rcases sq_some hr with ⟨e, h1, rfl⟩ | ⟨j, c1, h1, h3⟩
        · exact h2 (o + 1) (k + 1) _ h1 _ _ s4 Q hs4 (by omega) (hn_c (by decide)) (fun e2 he => by cases he; exact tQ_tr (hQ e rfl) hf4) (fun k' c he => by cases he)
        · refine h2 (o + 1) (k + 1) _ h1 _ _ s4 Q hs4 (by omega) (hn_c (by decide)) (fun e2 he => by cases he) (fun k' c' he s5 hs5 hf5 => ?_)
          cases he
          refine tA_not hT hs5 (Nat.zero_le _) (fun s6 hs6 hf6 => ?_)
          rcases h3 with ⟨e, h3, rfl⟩ | ⟨k2, c2, h3, rfl⟩
          · cases h3
          · cases h3
            exact go _ _ rfl s6 (by rw [← List.append_assoc]; exact hs6) (fr_tr (fr_tr hf4 hf5) hf6)
      exact main
  · rw [if_neg (fun z => q2 (hc2.mp z)), wq_bind]
    refine wq_mono (r_fact hT hs2 ho hc hr) (fun s3 p3 => ?_)
    have f3 : fr rD σ s3 := fr_tr (fr_mo hf2' (fun _ _ => mD_r)) p3.2
    -- what follows a FACT
    have fin : wq (tA s3) Q → wq (Option.bind (f_X12_qDropsNots s3) fun q4 => if (q4.1 0 5) = 0 then Option.bind (f_X12_qGoesOnTest q4) fun q5 => if q5.1 = true then f_X12_qTest_106 (1 : Int32) q5.2 else f_X12_qTest_105 q5.2 else f_X12_qTest_105 q4) (fhK (fun y => wq (fhlp (fun x => f_X12_qTest_2 x.1 x.2) y) Q) Q) := by
      intro hw
      unfold tA at hw
      rw [wq_bind] at hw
      rw [wq_bind]
      refine wq_mono hw (fun q4 p4 => ?_)
      unfold f_X12_qTest_105 f_X12_qTest_106
      by_cases z : q4.1 0 5 = 0
      · rw [if_pos z] at p4
        rw [if_pos z, wq_bind]
        unfold tG at p4
        rw [wq_bind] at p4
        unfold f_X12_qGoesOnTest
        refine wq_mono p4 (fun q5 p5 => ?_)
        by_cases y : q5.1 = true
        · rw [if_pos y] at p5
          rw [if_pos y, wq_some, fhK_l]
          exact p5
        · rw [if_neg y] at p5
          rw [if_neg y, wq_some, fhK_l]
          exact p5
      · rw [if_neg z] at p4
        rw [if_neg z, wq_some, fhK_l]
        exact p4
    refine fin ?_
    cases r with
    | inl e => exact tA_q (hQ e rfl) p3.1 f3
    | inr x => exact go x.1 x.2 rfl s3 p3.1 f3
theorem RT_all (hT : tOK T) : ∀ n, RT2 T q nl n ∧ RT1 T q nl n ∧ RT7 T q nl n ∧ RT0 T q nl n ∧ RT6 T q nl n := by
  intro n
  induction n with
  | zero => exact ⟨fun o k r hr => (by cases hr), fun o k r hr => (by cases hr), fun o k r hr => (by cases hr), fun o k r hr => (by cases hr), fun o k r hr => (by cases hr)⟩
  | succ n ih =>
    obtain ⟨h2, h1, h7, h0, h6⟩ := ih
    exact ⟨RT2_s hT h0 h2, RT1_s hT h2 h7, RT7_s hT h2 h7, RT0_s hT h1 h6, RT6_s hT h1 h6⟩
/-- a TEST, whole -/
theorem r_test (hT : tOK T) {o k : Nat} {r : (Nat × Nat) ⊕ (Nat × gC)} (hr : rd T q nl n 0 o k = some r) {out : gC} {σ : fhM} (h : rG T q nl o k out [] 0 σ) (ho : o ≤ 6) :
    wq (f_X12_qTest σ) (fun s => rX T q nl o out [] r s ∧ fr rD σ s) := by
  have : wq (tLS (1, σ)) (fun s => rX T q nl o out [] r s ∧ fr rD σ s) := by
    refine (RT_all hT n).2.2.2.1 o k r hr out [] σ _ h ho (fun u hu => by cases hu) (fun e he => ?_) (fun k' c he out' pn s hp heq n21 n20 hs hf => ?_)
    · subst he
      exact fun s hs hf => ⟨hs, hf⟩
    · subst he
      have hs : rG T q nl o k' out' (pn ++ []) 0 s := hs
      have hno : 25 ∉ pn ++ [] := by
        rw [List.append_nil]
        intro z
        have := hp 25 z
        omega
      refine tG_none hT hs n20 n21 (Or.inr hno) (fun z => absurd z hno) (fun _ s2 hs2 hf2 => ?_)
      rw [List.append_nil] at hs2
      refine tLS_end hT pn out' s2 (fun x hx => by rcases hp x hx with rfl | rfl <;> decide) rfl hs2 (fun s3 hs3 hf3 => ⟨?_, fr_tr (fr_tr hf hf2) hf3⟩)
      rw [heq] at hs3
      exact hs3
  exact this
end
