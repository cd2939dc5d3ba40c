/-! THE REFERENCE'S TESTS -/
def tF (e : Nat × Nat) (σ : fhM) : Prop := mF e σ ∧ 1 ≤ e.1 ∧ e.1 ≤ 6
def tQ (σ : fhM) (Q : fhM → Prop) (e : Nat × Nat) : Prop := ∀ s, tF e s → fr rD σ s → Q s
theorem tF_n {e : Nat × Nat} {σ : fhM} (h : tF e σ) : ¬ σ.1 0 5 = 0 := by
  rw [h.1.1]
  exact nI_ne0 (by have := h.2.1; omega) (by have := h.2.2; omega)
theorem rF_t {e : Nat × Nat} {σ : fhM} (h : rF e σ) : tF e σ := ⟨h.1, h.2.1, h.2.2.1⟩
theorem tQ_tr {σ s : fhM} {Q : fhM → Prop} {e : Nat × Nat} (h : tQ σ Q e) (hf : fr rD σ s) : tQ s Q e := fun x hx fx => h x hx (fr_tr hf fx)
noncomputable def tLS (x : Int32 × fhM) : Option fhM := fhlp (fun x => f_X12_qTest_2 x.1 x.2) x
noncomputable def tG (σ : fhM) : Option fhM := Option.bind (fhlp (fun x => f_X12_qGoesOnTest_0 x) σ) (fun q5 => if q5.1 = true then tLS (1, q5.2) else tLS (0, q5.2))
noncomputable def tA (σ : fhM) : Option fhM := Option.bind (f_X12_qDropsNots σ) (fun q4 => if q4.1 0 5 = 0 then tG q4 else tLS (0, q4))
theorem tLS_q {e : Nat × Nat} {σ s : fhM} {x : Int32} {Q : fhM → Prop} (hQ : tQ σ Q e) (hs : tF e s) (hf : fr rD σ s) : wq (tLS (x, s)) Q := by
  have h110 : wq (fhlp (fun x => f_X12_qTest_110 x) s) Q := by
    refine wq_step ?_
    unfold f_X12_qTest_110
    rw [if_neg (tF_n hs), wq_some, fhK_r]
    exact hQ s hs hf
  unfold tLS
  refine wq_step ?_
  dsimp only
  unfold f_X12_qTest_2
  split
  · rw [wq_map]; exact h110
  · rw [if_neg (tF_n hs), wq_map]; exact h110
theorem tA_q {e : Nat × Nat} {σ s : fhM} {Q : fhM → Prop} (hQ : tQ σ Q e) (hs : tF e s) (hf : fr rD σ s) : wq (tA s) Q := by
  unfold tA f_X12_qDropsNots
  rw [wq_bind]
  refine wq_step ?_
  unfold f_X12_qDropsNots_0
  rw [if_neg (tF_n hs), wq_some, fhK_r, if_neg (tF_n hs)]
  exact tLS_q hQ hs hf
/-- a NOT waited -/
theorem tA_not {T : tT} (hT : tOK T) {q : Bool} {nl : List (List Nat)} {o k : Nat} {out : gC} {wt : List Nat} {b : Nat} {σ : fhM} {Q : fhM → Prop} (h : rG T q nl (o + 1) k out (12 :: wt) b σ) (hb : b ≤ wt.length) (go : ∀ s, rG T q nl o k (out ++ [(3, 0)]) wt b s → fr rD σ s → wq (tA s) Q) : wq (tA σ) Q := by
  unfold tA f_X12_qDropsNots
  rw [wq_bind]
  refine wq_step ?_
  unfold f_X12_qDropsNots_0
  have e12 : f_X12_qIsOn 12 σ = some true := by rw [show (12 : Int32) = nI 12 from rfl, r_isOn hT h 12 (by decide)]; rfl
  rw [if_pos (rG_bad h), e12, wq_bind, wq_some, if_pos rfl, wq_bind, h.2.2.2.2.2.2.1, show nI (o + 1) - (1 : Int32) = nI o from nI_pred o]
  obtain ⟨a, f⟩ := r_open h o
  refine wq_mono (r_drop hT a hb (by decide)) (fun s p => ?_)
  rw [wq_some, fhK_l]
  have := go s p.1 (fr_tr f p.2)
  unfold tA f_X12_qDropsNots at this
  rwa [wq_bind] at this
theorem tA_G {T : tT} (hT : tOK T) {q : Bool} {nl : List (List Nat)} {o k : Nat} {out : gC} {wt : List Nat} {b : Nat} {σ : fhM} {Q : fhM → Prop} (h : rG T q nl o k out wt b σ) (hw : ∀ u, wt.head? = some u → u ≠ 12) (go : wq (tG σ) Q) : wq (tA σ) Q := by
  unfold tA f_X12_qDropsNots
  rw [wq_bind]
  refine wq_step ?_
  unfold f_X12_qDropsNots_0
  have e12 : f_X12_qIsOn 12 σ = some false := by rw [show (12 : Int32) = nI 12 from rfl, r_isOn hT h 12 (by decide), decide_eq_false (fun z => hw 12 z rfl)]
  rw [if_pos (rG_bad h), e12, wq_bind, wq_some, if_neg (by decide), wq_some, fhK_r, if_pos (rG_bad h)]
  exact go
/-- is there an open square bracket -/
theorem r_square {T : tT} (hT : tOK T) {q : Bool} {nl : List (List Nat)} {o k : Nat} {out : gC} {wt : List Nat} {b : Nat} {σ : fhM} (h : rG T q nl o k out wt b σ) : f_X12_qHasSquare σ = some (decide (25 ∈ wt)) := by
  have hT2 := hT.1
  have hk := h.2.1
  have hl := h.2.2.2.2.2.1
  -- cells by their places from the bottom
  have hcell : ∀ (w : List Nat), rWc w σ → ∀ i, i < w.length → ∃ u, w.reverse[i]? = some u ∧ u < 100 ∧ σ.1 77 i = nI u := by
    intro w
    induction w with
    | nil => intro _ i hi; exact absurd hi (Nat.not_lt_zero _)
    | cons x r ih =>
      intro hw i hi
      rw [List.length_cons] at hi
      by_cases z : i < r.length
      · obtain ⟨u, u1, u2, u3⟩ := ih hw.2.2 i z
        refine ⟨u, ?_, u2, u3⟩
        rw [List.reverse_cons, List.getElem?_append_left (by rw [List.length_reverse]; exact z)]
        exact u1
      · have e : i = r.length := by omega
        subst e
        refine ⟨x, ?_, hw.2.1, hw.1⟩
        rw [List.reverse_cons, List.getElem?_append_right (by rw [List.length_reverse]; exact Nat.le_refl _), List.length_reverse, Nat.sub_self]
        rfl
  unfold f_X12_qHasSquare
  have hq : wq (fhlp (fun x => f_X12_qHasSquare_2 x σ) (0 : Int32)) (fun r => r = decide (25 ∈ wt)) := by
    refine wq_for (R := fun i x => x = nI i ∧ ∀ j, j < i → wt.reverse[j]? ≠ some 25) 0 wt.length (Nat.zero_le _) ?_ ?_ ⟨rfl, fun j hj => by omega⟩
    · rintro i x - h2 ⟨rfl, hj⟩
      obtain ⟨u, u1, u2, u3⟩ := hcell wt h.2.2.2.2.1.2 i h2
      unfold f_X12_qHasSquare_2
      rw [h.2.2.2.2.1.1, if_neg (nI_ge h2 (by omega)), if_pos (ph_in1 (by omega) (by omega)), ph_ix (by omega), u3]
      by_cases z : u = 25
      · rw [if_pos (show nI u = (25 : Int32) by rw [z]; rfl), wq_some, fhK_r]
        have : 25 ∈ wt := by rw [← List.mem_reverse]; exact List.mem_of_getElem? (by rw [u1, z])
        rw [decide_eq_true this]
      · rw [if_neg (show ¬ nI u = (25 : Int32) from nIn z (b := 25) (by omega) (by decide)), wq_some, fhK_l, nI_1]
        refine ⟨rfl, fun j hj2 => ?_⟩
        rcases Nat.lt_succ_iff_lt_or_eq.mp hj2 with y | y
        · exact hj j y
        · rw [y, u1]; intro x; exact z (Option.some.inj x)
    · rintro x ⟨rfl, hj⟩
      unfold f_X12_qHasSquare_2
      rw [h.2.2.2.2.1.1, if_pos (Int32.le_refl _), wq_some, fhK_r, decide_eq_false]
      intro z
      obtain ⟨j, hj1⟩ := List.getElem?_of_mem (List.mem_reverse.mpr z)
      have hjl : j < wt.length := by
        have := (List.getElem?_eq_some_iff.mp hj1).1
        rw [List.length_reverse] at this
        exact this
      exact hj j hjl hj1
  obtain ⟨r, e1, e2⟩ := hq
  rw [e1, e2]
theorem tG_76 {T : tT} (hT : tOK T) {q : Bool} {nl : List (List Nat)} {o k : Nat} {out : gC} {wt : List Nat} {b : Nat} {σ : fhM} {Q : fhM → Prop} (h : rG T q nl o k out wt b σ) (hn : ¬ isg T k 93 ∨ 25 ∉ wt) (go : ∀ s, rG T q nl o k out wt b s → mA T k s → fr mD σ s → wq (f_X12_qGoesOnTest_76 s) (fun q5 => wq (if q5.1 = true then tLS (1, q5.2) else tLS (0, q5.2)) Q)) : wq (tG σ) Q := by
  unfold tG
  rw [wq_bind]
  refine wq_step ?_
  unfold f_X12_qGoesOnTest_0
  rw [if_pos (rG_bad h), wq_bind]
  refine wq_mono (m_look hT h.1) ?_
  rintro ⟨c, s⟩ ⟨hc, hA, hf⟩
  have hc : c = mc T k := hc
  have hs := rG_m h hA.1 (Nat.le_refl _) h.2.1 hf
  dsimp only
  rw [hc]
  by_cases z : isg T k 93
  · rw [if_pos (show mc T k = (93 : Int32) from (m_sg (c := 93) hT rfl (by decide)).mpr z), r_square hT hs, wq_bind, wq_some, if_neg (by rw [decide_eq_true_iff]; exact hn.resolve_left (fun y => y z)), wq_map]
    exact go s hs hA hf
  · rw [if_neg (show ¬ mc T k = (93 : Int32) from fun y => z ((m_sg (c := 93) hT rfl (by decide)).mp y)), wq_map]
    exact go s hs hA hf
theorem tG_and {T : tT} (hT : tOK T) {q : Bool} {nl : List (List Nat)} {o k : Nat} {out : gC} {pn wt : List Nat} {b : Nat} {σ : fhM} {Q : fhM → Prop} (h : rG T q nl o k out (pn ++ wt) b σ) (hpn : ∀ x ∈ pn, x = 10) (hwt : ∀ u, wt.head? = some u → u ≠ 10) (hb : b ≤ wt.length) (hg : isw T k 21)
    (go : ∀ s, rG T q nl o (k + 1) (out ++ pn.map rDec) (10 :: wt) b s → fr rD σ s → wq (tLS (1, s)) Q) : wq (tG σ) Q := by
  have hkn := kd_num (isw_k hg)
  have hl := h.2.2.2.2.2.1
  refine tG_76 hT h (Or.inl (fun z => by have := z.1; have := hg.1; omega)) (fun s hs hA hf => ?_)
  unfold f_X12_qGoesOnTest_76
  rw [wq_bind]
  refine wq_mono (r_ta59 hT hA.1 hs.2.2.1) ?_
  rintro ⟨c, s2⟩ ⟨hc, hp, hn, hf2⟩
  dsimp only at hc hp hn hf2 ⊢
  rw [if_pos (hc.mpr hg)]
  have hs2 := rG_m hs (hp hg) (Nat.le_succ k) (by omega) hf2
  refine wq_mono (r_andLoop hT hwt hb pn out s2 hpn hs2 (by omega)) (fun r p => ?_)
  rw [if_pos p.1]
  exact go r.2 p.2.1 (fr_tr (fr_mo (fr_tr hf hf2) (fun _ _ => mD_r)) p.2.2)
theorem tG_or {T : tT} (hT : tOK T) {q : Bool} {nl : List (List Nat)} {o k : Nat} {out : gC} {pn wt : List Nat} {b : Nat} {σ : fhM} {Q : fhM → Prop} (h : rG T q nl o k out (pn ++ wt) b σ) (hpn : ∀ x ∈ pn, x = 10 ∨ x = 11) (hwt : ∀ u, wt.head? = some u → u ≠ 10 ∧ u ≠ 11) (hb : b ≤ wt.length) (hg : isw T k 20)
    (go : ∀ s, rG T q nl o (k + 1) (out ++ pn.map rDec) (11 :: wt) b s → fr rD σ s → wq (tLS (1, s)) Q) : wq (tG σ) Q := by
  have hkn := kd_num (isw_k hg)
  have hl := h.2.2.2.2.2.1
  refine tG_76 hT h (Or.inl (fun z => by have := z.1; have := hg.1; omega)) (fun s hs hA hf => ?_)
  unfold f_X12_qGoesOnTest_76
  rw [wq_bind]
  refine wq_mono (r_ta59 hT hA.1 hs.2.2.1) ?_
  rintro ⟨c, s2⟩ ⟨hc, hp, hn, hf2⟩
  dsimp only at hc hp hn hf2 ⊢
  have n21 : ¬ isw T k 21 := fun z => by have := z.2; have := hg.2; omega
  rw [if_neg (fun z => n21 (hc.mp z)), wq_bind]
  refine wq_mono (r_ta60 hT (hn n21).1 (mW_m hs.2.2.1 hf2)) ?_
  rintro ⟨c3, s3⟩ ⟨hc3, hp3, hn3, hf3⟩
  dsimp only at hc3 hp3 hn3 hf3 ⊢
  rw [if_pos (hc3.mpr hg)]
  have hs3 := rG_m hs (hp3 hg) (Nat.le_succ k) (by omega) (fr_tr hf2 hf3)
  refine wq_mono (r_orLoop hT hwt hb pn out s3 hpn hs3 (by omega)) (fun r p => ?_)
  rw [if_pos p.1]
  exact go r.2 p.2.1 (fr_tr (fr_mo (fr_tr hf (fr_tr hf2 hf3)) (fun _ _ => mD_r)) p.2.2)
/-- neither and nor or -/
theorem tG_none {T : tT} (hT : tOK T) {q : Bool} {nl : List (List Nat)} {o k : Nat} {out : gC} {wt : List Nat} {b : Nat} {σ : fhM} {Q : fhM → Prop} (h : rG T q nl o k out wt b σ) (n20 : ¬ isw T k 20) (n21 : ¬ isw T k 21) (hn : ¬ isg T k 93 ∨ 25 ∉ wt) (hQ : 25 ∈ wt → tQ σ Q (1, fm T k))
    (go : 25 ∉ wt → ∀ s, rG T q nl o k out wt b s → fr rD σ s → wq (tLS (0, s)) Q) : wq (tG σ) Q := by
  refine tG_76 hT h hn (fun s hs hA hf => ?_)
  unfold f_X12_qGoesOnTest_76
  rw [wq_bind]
  refine wq_mono (r_ta59 hT hA.1 hs.2.2.1) ?_
  rintro ⟨c, s2⟩ ⟨hc, hp, hn2, hf2⟩
  dsimp only at hc hp hn2 hf2 ⊢
  rw [if_neg (fun z => n21 (hc.mp z)), wq_bind]
  refine wq_mono (r_ta60 hT (hn2 n21).1 (mW_m hs.2.2.1 hf2)) ?_
  rintro ⟨c3, s3⟩ ⟨hc3, hp3, hn3, hf3⟩
  dsimp only at hc3 hp3 hn3 hf3 ⊢
  have hA3 := hn3 n20
  have hs3 := rG_m hs hA3.1 (Nat.le_refl _) h.2.1 (fr_tr hf2 hf3)
  have ff := fr_tr hf (fr_tr hf2 hf3)
  rw [if_neg (fun z => n20 (hc3.mp z)), if_pos (rG_bad hs3), r_square hT hs3, wq_bind, wq_some]
  by_cases z : 25 ∈ wt
  · rw [if_pos (decide_eq_true z), wq_let, wq_some, if_neg fN1, hA3.2]
    obtain ⟨a, f⟩ := m_fail (q := (1, fm T k)) (rG_bad hs3)
    exact tLS_q (hQ z) ⟨a, Nat.le_of_ble_eq_true rfl, Nat.le_of_ble_eq_true rfl⟩ (fr_mo (fr_tr ff f) (fun _ _ => mD_r))
  · rw [if_neg (by rw [decide_eq_true_iff]; exact z), wq_some, if_neg fN1]
    exact go z s3 hs3 (fr_mo ff (fun _ _ => mD_r))
theorem r_dropsB {σ s : fhM} (h0 : σ.1 0 5 = 0) (h : f_X12_qDropsNots σ = some s) : s.1 0 5 = 0 := by
  unfold f_X12_qDropsNots at h
  refine fhlp_inv (fun x => x.1 0 5 = 0) (fun x => x.1 0 5 = 0) ?_ h0 h
  intro x o hx e
  unfold f_X12_qDropsNots_0 at e
  rw [if_pos hx] at e
  obtain ⟨y, e1, e2⟩ := Option.bind_eq_some_iff.mp e
  split at e2
  · obtain ⟨w, e3, e4⟩ := Option.bind_eq_some_iff.mp e2
    cases e4
    show w.1 0 5 = 0
    rw [r_dropB e3]
    simp (disch := omega) only [fhI_e, fhI_o, fhI_s]
    exact hx
  · cases e2; exact hx
theorem tA_B {σ : fhM} {Q : fhM → Prop} (hb : σ.1 0 5 = 0) (h : wq (tA σ) Q) : wq (f_X12_qDropsNots σ) (fun s => wq (tG s) Q) := by
  unfold tA at h
  rw [wq_bind] at h
  obtain ⟨s, e, p⟩ := h
  refine ⟨s, e, ?_⟩
  rwa [if_pos (r_dropsB hb e)] at p
/-- the square bracket is closed -/
theorem tG_close {T : tT} (hT : tOK T) {q : Bool} {nl : List (List Nat)} {o k : Nat} {out : gC} {pn wt : List Nat} {b : Nat} {σ : fhM} {Q : fhM → Prop} (h : rG T q nl (o + 1) k out (pn ++ 25 :: wt) b σ) (hpn : ∀ x ∈ pn, x = 10 ∨ x = 11) (hb : b ≤ wt.length) (hg : isg T k 93)
    (go : ∀ s, rG T q nl o (k + 1) (out ++ pn.map rDec) wt b s → fr rD σ s → wq (tA s) Q) : wq (tG σ) Q := by
  have hkn := kd_num (isg_k hg)
  unfold tG
  rw [wq_bind]
  refine wq_step ?_
  unfold f_X12_qGoesOnTest_0
  rw [if_pos (rG_bad h), wq_bind]
  refine wq_mono (m_look hT h.1) ?_
  rintro ⟨c, s⟩ ⟨hc, hA, hf⟩
  have hc : c = mc T k := hc
  have hA : mA T k s := hA
  have hf : fr mD σ s := hf
  have hs := rG_m h hA.1 (Nat.le_refl _) h.2.1 hf
  dsimp only
  have e : s.1 0 2 + (1 : Int32) = nI (to T k) := by rw [hA.2, nI_1, isg_to hg]
  rw [hc, if_pos (show mc T k = (93 : Int32) from (m_sg (c := 93) hT rfl (by decide)).mpr hg), r_square hT hs, wq_bind, wq_some, if_pos (by rw [decide_eq_true_iff]; exact List.mem_append_right _ List.mem_cons_self), e]
  have hp1 := mP_nextS hT hA.1 hg.1
  have f1 : fr mD s (fhI s 0 2 (nI (to T k))) := fr_I fr_rf ⟨rfl, by omega⟩
  have hs1 := rG_m hs hp1 (Nat.le_succ k) (by omega) f1
  have f01 : fr rD σ (fhI s 0 2 (nI (to T k))) := fr_mo (fr_tr hf f1) (fun _ _ => mD_r)
  clear hc hA hs e hf
  generalize fhI s 0 2 (nI (to T k)) = s1 at hs1 f01
  -- the loop that tells what waits
  have key : ∀ (pn : List Nat) (out0 : gC) (s1 : fhM), (∀ x ∈ pn, x = 10 ∨ x = 11) → rG T q nl (o + 1) (k + 1) out0 (pn ++ 25 :: wt) b s1 → fr rD σ s1 → out0 ++ pn.map rDec = out ++ (List.map rDec pn ++ []) ∨ True → (∀ s, rG T q nl o (k + 1) (out0 ++ pn.map rDec) wt b s → fr rD σ s → wq (tA s) Q) →
      wq (fhlp (fun x => f_X12_qGoesOnTest_33 x) s1) (fhK (fun y => wq (fhlp (fun x => f_X12_qGoesOnTest_0 x) y) (fun q5 => wq (if q5.1 = true then tLS (1, q5.2) else tLS (0, q5.2)) Q)) (fun q5 => wq (if q5.1 = true then tLS (1, q5.2) else tLS (0, q5.2)) Q)) := by
    intro pn
    induction pn with
    | nil =>
      intro out0 s1 _ h1 f1 _ go
      have h1 : rG T q nl (o + 1) (k + 1) out0 (25 :: wt) b s1 := h1
      refine wq_step ?_
      unfold f_X12_qGoesOnTest_33
      have e25 : f_X12_qIsOn 25 s1 = some true := by rw [show (25 : Int32) = nI 25 from rfl, r_isOn hT h1 25 (by decide)]; rfl
      obtain ⟨t1, t2, t3, t4⟩ := r_top hT h1
      obtain ⟨a1, g1⟩ := r_pop h1 hb
      obtain ⟨a2, g2⟩ := r_open a1 o
      rw [e25, wq_bind, wq_some, if_pos rfl, wq_bind, t1]
      have eo : (fhI s1 0 101 (nI wt.length)).1 0 102 - (1 : Int32) = nI o := by
        simp (disch := omega) only [fhI_e, fhI_o, fhI_s]
        rw [h1.2.2.2.2.2.2.1]
        exact nI_pred o
      have eo2 : s1.1 0 102 - (1 : Int32) = nI o := by rw [h1.2.2.2.2.2.2.1]; exact nI_pred o
      rw [List.map_nil, List.append_nil] at go
      have hB := tA_B (rG_bad a2) (go _ a2 (fr_tr (fr_tr f1 g1) g2))
      first
        | rw [eo]
        | rw [eo2]
      refine wq_mono hB (fun y z => ?_)
      rw [wq_some, fhK_r, fhK_l]
      unfold tG at z
      rwa [wq_bind] at z
    | cons x r ih =>
      intro out0 s1 hx h1 f1 _ go
      have h1 : rG T q nl (o + 1) (k + 1) out0 (x :: (r ++ 25 :: wt)) b s1 := h1
      have hx0 := hx x List.mem_cons_self
      refine wq_step ?_
      unfold f_X12_qGoesOnTest_33
      have e25 : f_X12_qIsOn 25 s1 = some false := by
        rw [show (25 : Int32) = nI 25 from rfl, r_isOn hT h1 25 (by decide), decide_eq_false]
        intro z
        have z : some x = some 25 := z
        have := Option.some.inj z
        omega
      rw [e25, wq_bind, wq_some, if_neg (by decide), wq_bind]
      refine wq_mono (r_drop hT h1 (by rw [List.length_append, List.length_cons]; omega) (by rcases hx0 with rfl | rfl <;> decide)) (fun y z => ?_)
      rw [wq_some, fhK_l]
      refine ih (out0 ++ [rDec x]) y (fun w hw => hx w (List.mem_cons_of_mem _ hw)) z.1 (fr_tr f1 z.2) (Or.inr trivial) (fun w hw fw => go w ?_ fw)
      rw [List.append_assoc] at hw
      exact hw
  exact key pn out s1 hpn hs1 f01 (Or.inr trivial) go
/-- the end of all -/
theorem tLS_end {T : tT} (hT : tOK T) {q : Bool} {nl : List (List Nat)} {o k : Nat} {b : Nat} {Q : fhM → Prop} : ∀ (pn : List Nat) (out : gC) (σ : fhM), (∀ x ∈ pn, x ∈ rOps) → b = 0 → rG T q nl o k out pn b σ → (∀ s, rG T q nl o k (out ++ pn.map rDec) [] b s → fr rD σ s → Q s) → wq (tLS (0, σ)) Q := by
  have hT2 := hT.1
  intro pn out σ hpn hb h go
  unfold tLS
  refine wq_step ?_
  dsimp only
  unfold f_X12_qTest_2
  rw [if_pos rfl, wq_map]
  simp only [fhK_r]
  induction pn generalizing out σ with
  | nil =>
    refine wq_step ?_
    unfold f_X12_qTest_110
    rw [if_pos (rG_bad h), if_pos (show σ.1 0 101 ≤ 0 by rw [h.2.2.2.2.1.1]; exact Int32.le_refl _), wq_some, fhK_r]
    rw [List.map_nil, List.append_nil] at go
    exact go σ h fr_rf
  | cons x r ih =>
    have hk := h.2.1
    have hl := h.2.2.2.2.2.1
    rw [List.length_cons] at hl
    refine wq_step ?_
    unfold f_X12_qTest_110
    rw [if_pos (rG_bad h), if_neg (show ¬ σ.1 0 101 ≤ 0 by rw [h.2.2.2.2.1.1]; exact nI_nle (by rw [List.length_cons]; omega) (by rw [List.length_cons]; omega)), wq_bind]
    refine wq_mono (r_drop hT h (by omega) (hpn x List.mem_cons_self)) (fun s p => ?_)
    rw [wq_some, fhK_l]
    refine ih (out ++ [rDec x]) s (fun y hy => hpn y (List.mem_cons_of_mem _ hy)) p.1 (fun s2 h2 f2 => go s2 ?_ (fr_tr p.2 f2))
    rw [List.append_assoc] at h2
    exact h2
