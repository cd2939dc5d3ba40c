/-! ITS LOOP GOES ON -/
theorem fhlp_inv {α β : Type} {f : α → Option (α ⊕ β)} (I : α → Prop) (J : β → Prop) (step : ∀ (x : α) (o : α ⊕ β), I x → f x = some o → fhK I J o) {x : α} {z : β} (h : I x) (e : fhlp f x = some z) : J z := by
  obtain ⟨n, hn⟩ := fhlp_ex e
  have key : ∀ (n : Nat) (x : α), I x → fhit f n x = some z → J z := by
    intro n
    induction n with
    | zero => intro x _ h; cases h
    | succ n ih =>
      intro x hx h
      unfold fhit at h
      cases e : f x with
      | none => rw [e] at h; cases h
      | some o =>
        rw [e] at h
        have := step x o hx e
        cases o with
        | inl y => exact ih y this h
        | inr w => cases h; exact this
  exact key n x h hn
theorem r_codeB {v : Int32} {σ s : fhM} (h : f_X12_qCode v σ = some s) : s.1 0 5 = σ.1 0 5 := by
  unfold f_X12_qCode at h
  split at h
  · cases h; simp (disch := omega) only [fhI_e, fhI_o, fhI_s]
  · cases h
theorem r_dropB {σ s : fhM} (h : f_X12_qDrops σ = some s) : s.1 0 5 = σ.1 0 5 := by
  unfold f_X12_qDrops at h
  split at h
  · obtain ⟨y, e1, e2⟩ := Option.bind_eq_some_iff.mp h
    cases e2
    have := r_codeB e1
    rw [this]
    simp (disch := omega) only [fhI_e, fhI_o, fhI_s]
  · cases h
theorem r_endsB {σ s : fhM} (h0 : σ.1 0 5 = 0) (h : f_X12_qEndsPart σ = some s) : s.1 0 5 = 0 := by
  unfold f_X12_qEndsPart at h
  refine fhlp_inv (fun x => x.1 0 5 = 0) (fun x => x.1 0 5 = 0) ?_ h0 h
  intro x o hx e
  unfold f_X12_qEndsPart_0 at e
  rw [if_pos hx] at e
  split at e
  · cases e; exact hx
  · split at e
    · split at e
      · cases e; exact hx
      · obtain ⟨y, e1, e2⟩ := Option.bind_eq_some_iff.mp e
        cases e2
        show y.1 0 5 = 0
        rw [r_dropB e1]
        simp (disch := omega) only [fhI_e, fhI_o, fhI_s]
        exact hx
    · cases e
theorem kA_G {v : Int32} {σ : fhM} {Q : fhM → Prop} (hb : σ.1 0 5 = 0) (h : wq (kA v σ) Q) : wq (f_X12_qEndsPart σ) (fun q16 => wq (kG v q16) Q) := by
  unfold kA at h
  rw [wq_bind] at h
  obtain ⟨s, e, p⟩ := h
  refine ⟨s, e, ?_⟩
  unfold kB at p
  rwa [if_pos (r_endsB hb e)] at p
theorem isg_inj {T : tT} {k c d : Nat} (h : isg T k c) (h2 : isg T k d) : c = d := h.2.symm.trans h2.2
theorem r_at1 {T : tT} (hT : tOK T) {k c : Nat} {s : fhM} (hp : mP T (k + 1) s) (hg : isg T k c) (ha : s.1 0 2 = nI (to T k)) : fhin ((s.1 0 2) - (1 : Int32)) 1600 = true ∧ s.1 1 (fhix ((s.1 0 2) - (1 : Int32))) = nI c := by
  have hT2 := hT.1
  have hkf := kd_pos (isg_k hg)
  rw [ha, isg_to hg, show nI (fm T k + 1) - (1 : Int32) = nI (fm T k) from nI_pred _, ph_in (by omega), decide_eq_true (by omega), ph_ix (by omega), mP_b hp hkf, hg.2]
  exact ⟨rfl, rfl⟩
theorem kG_mul {T : tT} (hT : tOK T) {q : Bool} {nl : List (List Nat)} {o k : Nat} {out : gC} {pm wt : List Nat} {b : Nat} {v : Int32} {σ : fhM} {Q : fhM → Prop} (h : rG T q nl o k out (pm ++ wt) b σ) (hpm : ∀ x ∈ pm, x = 3 ∨ x = 4) (hwt : ∀ u, wt.head? = some u → u ≠ 3 ∧ u ≠ 4) (hb : b ≤ wt.length) (hg : isg T k 42 ∨ isg T k 47)
    (go : ∀ op s, (isg T k 42 → op = 3) → (isg T k 47 → op = 4) → rG T q nl o (k + 1) (out ++ pm.map rDec) (op :: wt) b s → fr rD σ s → wq (k0 v s) Q) : wq (kG v σ) Q := by
  have hk0 : kd T k ≠ 0 := by rcases hg with z | z <;> exact isg_k z
  have hkn := kd_num hk0
  refine kG_head hT h (fun s hs hA hf => ?_)
  have hfr := fr_mo hf (fun _ _ => mD_r)
  refine kG_122 (fun z => ?_) ?_
  · have z := (m_sg (c := 41) hT rfl (by decide)).mp z
    rcases hg with y | y
    · exact absurd (isg_inj z y) (by decide)
    · exact absurd (isg_inj z y) (by decide)
  have hl := h.2.2.2.2.2.1
  -- behind the sign
  have fin : ∀ (c op : Nat) (s2 : fhM), isg T k c → (if nI c = (42 : Int32) then (3 : Int32) else 4) = nI op → op < 100 → (isg T k 42 → op = 3) → (isg T k 47 → op = 4) → mP T (k + 1) s2 → s2.1 0 2 = nI (to T k) → fr mD s s2 → wq (f_X12_qGoesOn_140 s2) (fun q2 => wq (if q2.1 = true then kLS v (1, q2.2) else kLS v (0, q2.2)) Q) := by
    intro c op s2 hc hop hop2 h42 h47 hp ha hf2
    have hs2 := rG_m hs hp (Nat.le_succ k) (by omega) hf2
    obtain ⟨a1, a2⟩ := r_at1 hT hp hc ha
    unfold f_X12_qGoesOn_140
    rw [a1, if_pos (show (true && true) = true from rfl), a2, hop]
    refine wq_mono (r_mulLoop hT hop2 hwt hb pm out s2 hpm hs2 (by omega)) (fun r p => ?_)
    rw [if_pos p.1]
    exact kLS_1 (rG_bad p.2.1) (go op r.2 h42 h47 p.2.1 (fr_tr (fr_tr hfr (fr_mo hf2 (fun _ _ => mD_r))) p.2.2))
  unfold f_X12_qGoesOn_122
  rw [wq_bind]
  refine wq_mono (m_takesSign (c := 42) hT rfl (by decide) hA.1) ?_
  rintro ⟨c, s2⟩ ⟨hc, hp, hn, hf2⟩
  dsimp only at hc hp hn hf2 ⊢
  by_cases z : isg T k 42
  · rw [if_pos (hc.mpr z)]
    exact fin 42 3 s2 z rfl (by decide) (fun _ => rfl) (fun y => absurd (isg_inj z y) (by decide)) (hp z).1 (hp z).2 hf2
  rw [if_neg (fun y => z (hc.mp y)), wq_bind]
  refine wq_mono (m_takesSign (c := 47) hT rfl (by decide) (hn z).1) ?_
  rintro ⟨c2, s3⟩ ⟨hc2, hp2, hn2, hf3⟩
  dsimp only at hc2 hp2 hn2 hf3 ⊢
  have y := hg.resolve_left z
  rw [if_pos (hc2.mpr y)]
  exact fin 47 4 s3 y rfl (by decide) (fun x => absurd x z) (fun _ => rfl) (hp2 y).1 (hp2 y).2 (fr_tr hf2 hf3)
theorem kG_add {T : tT} (hT : tOK T) {q : Bool} {nl : List (List Nat)} {o k : Nat} {out : gC} {pm wt : List Nat} {b : Nat} {v : Int32} {σ : fhM} {Q : fhM → Prop} (h : rG T q nl o k out (pm ++ wt) b σ) (hpm : ∀ x ∈ pm, x = 3 ∨ x = 4 ∨ x = 1 ∨ x = 2) (hwt : ∀ u, wt.head? = some u → u ≠ 3 ∧ u ≠ 4 ∧ u ≠ 1 ∧ u ≠ 2) (hb : b ≤ wt.length) (hg : isg T k 43 ∨ isg T k 45)
    (go : ∀ op s, (isg T k 43 → op = 1) → (isg T k 45 → op = 2) → rG T q nl o (k + 1) (out ++ pm.map rDec) (op :: wt) b s → fr rD σ s → wq (k0 v s) Q) : wq (kG v σ) Q := by
  have hk0 : kd T k ≠ 0 := by rcases hg with z | z <;> exact isg_k z
  have hkn := kd_num hk0
  have n42 : ¬ isg T k 42 := fun z => by rcases hg with y | y <;> exact absurd (isg_inj z y) (by decide)
  have n47 : ¬ isg T k 47 := fun z => by rcases hg with y | y <;> exact absurd (isg_inj z y) (by decide)
  refine kG_head hT h (fun s hs hA hf => ?_)
  have hfr := fr_mo hf (fun _ _ => mD_r)
  refine kG_122 (fun z => ?_) ?_
  · have z := (m_sg (c := 41) hT rfl (by decide)).mp z
    rcases hg with y | y
    · exact absurd (isg_inj z y) (by decide)
    · exact absurd (isg_inj z y) (by decide)
  have hl := h.2.2.2.2.2.1
  have fin : ∀ (c op : Nat) (s2 : fhM), isg T k c → (if nI c = (43 : Int32) then (1 : Int32) else 2) = nI op → op < 100 → (isg T k 43 → op = 1) → (isg T k 45 → op = 2) → mP T (k + 1) s2 → s2.1 0 2 = nI (to T k) → fr mD s s2 → wq (f_X12_qGoesOn_225 s2) (fun q2 => wq (if q2.1 = true then kLS v (1, q2.2) else kLS v (0, q2.2)) Q) := by
    intro c op s2 hc hop hop2 h42 h47 hp ha hf2
    have hs2 := rG_m hs hp (Nat.le_succ k) (by omega) hf2
    obtain ⟨a1, a2⟩ := r_at1 hT hp hc ha
    unfold f_X12_qGoesOn_225
    rw [a1, if_pos (show (true && true) = true from rfl), a2, hop]
    refine wq_mono (r_addLoop hT hop2 hwt hb pm out s2 hpm hs2 (by omega)) (fun r p => ?_)
    rw [if_pos p.1]
    exact kLS_1 (rG_bad p.2.1) (go op r.2 h42 h47 p.2.1 (fr_tr (fr_tr hfr (fr_mo hf2 (fun _ _ => mD_r))) p.2.2))
  unfold f_X12_qGoesOn_122
  rw [wq_bind]
  refine wq_mono (m_takesSign (c := 42) hT rfl (by decide) hA.1) ?_
  rintro ⟨c, s2⟩ ⟨hc, hp, hn, hf2⟩
  dsimp only at hc hp hn hf2 ⊢
  rw [if_neg (fun y => n42 (hc.mp y)), wq_bind]
  refine wq_mono (m_takesSign (c := 47) hT rfl (by decide) (hn n42).1) ?_
  rintro ⟨c2, s3⟩ ⟨hc2, hp2, hn2, hf3⟩
  dsimp only at hc2 hp2 hn2 hf3 ⊢
  rw [if_neg (fun y => n47 (hc2.mp y)), wq_bind]
  refine wq_mono (m_takesSign (c := 43) hT rfl (by decide) (hn2 n47).1) ?_
  rintro ⟨c4, s4⟩ ⟨hc4, hp4, hn4, hf4⟩
  dsimp only at hc4 hp4 hn4 hf4 ⊢
  by_cases z : isg T k 43
  · rw [if_pos (hc4.mpr z)]
    exact fin 43 1 s4 z rfl (by decide) (fun _ => rfl) (fun y => absurd (isg_inj z y) (by decide)) (hp4 z).1 (hp4 z).2 (fr_tr (fr_tr hf2 hf3) hf4)
  rw [if_neg (fun y => z (hc4.mp y)), wq_bind]
  refine wq_mono (m_takesSign (c := 45) hT rfl (by decide) (hn4 z).1) ?_
  rintro ⟨c5, s5⟩ ⟨hc5, hp5, hn5, hf5⟩
  dsimp only at hc5 hp5 hn5 hf5 ⊢
  have y := hg.resolve_left z
  rw [if_pos (hc5.mpr y)]
  exact fin 45 2 s5 y rfl (by decide) (fun x => absurd x z) (fun _ => rfl) (hp5 y).1 (hp5 y).2 (fr_tr (fr_tr (fr_tr hf2 hf3) hf4) hf5)
/-- no sign of sums -/
def nosg (T : tT) (k : Nat) : Prop := ¬ isg T k 42 ∧ ¬ isg T k 47 ∧ ¬ isg T k 43 ∧ ¬ isg T k 45
theorem r_122 {T : tT} (hT : tOK T) {q : Bool} {nl : List (List Nat)} {o k : Nat} {out : gC} {wt : List Nat} {b : Nat} {s : fhM} {P : Bool × fhM → Prop} (hs : rG T q nl o k out wt b s) (hn : nosg T k)
    (go : ∀ y, rG T q nl o k out wt b y → mA T k y → fr mD s y → wq (Option.bind (f_X12_qBracket y) fun q9 => if q9 = (21 : Int32) then f_X12_qGoesOn_326 y else Option.bind (f_X12_qBracket y) fun q10 => if q10 = (22 : Int32) then f_X12_qGoesOn_326 y else Option.bind (f_X12_qBracket y) fun q11 => if q11 = (-1 : Int32) then some (false, y) else if (y.1 0 5) = 0 then fhlet (f_X12_fail (1 : Int32) (y.1 0 2) y) fun q12 => some (false, q12) else some (false, y)) P) : wq (f_X12_qGoesOn_122 s) P := by
  unfold f_X12_qGoesOn_122
  rw [wq_bind]
  refine wq_mono (m_takesSign (c := 42) hT rfl (by decide) hs.1) ?_
  rintro ⟨c, s2⟩ ⟨hc, hp, hn2, hf2⟩
  dsimp only at hc hp hn2 hf2 ⊢
  rw [if_neg (fun y => hn.1 (hc.mp y)), wq_bind]
  refine wq_mono (m_takesSign (c := 47) hT rfl (by decide) (hn2 hn.1).1) ?_
  rintro ⟨c3, s3⟩ ⟨hc3, hp3, hn3, hf3⟩
  dsimp only at hc3 hp3 hn3 hf3 ⊢
  rw [if_neg (fun y => hn.2.1 (hc3.mp y)), wq_bind]
  refine wq_mono (m_takesSign (c := 43) hT rfl (by decide) (hn3 hn.2.1).1) ?_
  rintro ⟨c4, s4⟩ ⟨hc4, hp4, hn4, hf4⟩
  dsimp only at hc4 hp4 hn4 hf4 ⊢
  rw [if_neg (fun y => hn.2.2.1 (hc4.mp y)), wq_bind]
  refine wq_mono (m_takesSign (c := 45) hT rfl (by decide) (hn4 hn.2.2.1).1) ?_
  rintro ⟨c5, s5⟩ ⟨hc5, hp5, hn5, hf5⟩
  dsimp only at hc5 hp5 hn5 hf5 ⊢
  rw [if_neg (fun y => hn.2.2.2 (hc5.mp y))]
  have hA := hn5 hn.2.2.2
  have ff : fr mD s s5 := fr_tr (fr_tr (fr_tr hf2 hf3) hf4) hf5
  exact go s5 (rG_m hs hA.1 (Nat.le_refl _) hs.2.1 ff) hA ff
/-- a bracket is closed -/
theorem kG_close {T : tT} (hT : tOK T) {q : Bool} {nl : List (List Nat)} {o k u : Nat} {out : gC} {pn wt : List Nat} {b : Nat} {v : Int32} {σ : fhM} {Q : fhM → Prop} (h : rG T q nl (o + 1) k out (pn ++ u :: wt) b σ) (hpn : ∀ x ∈ pn, isBr x = false ∧ x ∈ rOps) (hu : u = 20 ∨ u = 23 ∨ u = 24) (hb : b ≤ wt.length) (hg : isg T k 41)
    (go : ∀ s, rG T q nl o (k + 1) (out ++ pn.map rDec ++ (if u = 20 then [] else [(if u = 23 then 8 else 9, 0)])) wt b s → fr rD σ s → wq (kA v s) Q) : wq (kG v σ) Q := by
  have hkn := kd_num (isg_k hg)
  have hub : isBr u = true := by rcases hu with rfl | rfl | rfl <;> rfl
  have hu100 : u < 100 := by rcases hu with rfl | rfl | rfl <;> decide
  have hl := h.2.2.2.2.2.1
  rw [List.length_append, List.length_cons] at hl
  refine kG_head hT h (fun s hs hA hf => ?_)
  have hfr := fr_mo hf (fun _ _ => mD_r)
  have hbr := r_bracket hT hs (fun x hx => (hpn x hx).1) hub hb
  rw [if_pos (show mc T k = (41 : Int32) from (m_sg (c := 41) hT rfl (by decide)).mpr hg)]
  have main : wq (f_X12_qGoesOn_43 s) (fhK (fun y => wq (kG v y) Q) (fun q2 => wq (if q2.1 = true then kLS v (1, q2.2) else kLS v (0, q2.2)) Q)) := by
    unfold f_X12_qGoesOn_43
    have e : s.1 0 2 + (1 : Int32) = nI (to T k) := by rw [hA.2, nI_1, isg_to hg]
    rw [e, wq_bind]
    have hp1 := mP_nextS hT hA.1 hg.1
    have f1 : fr mD s (fhI s 0 2 (nI (to T k))) := fr_I fr_rf ⟨rfl, by omega⟩
    have hs1 := rG_m hs hp1 (Nat.le_succ k) (by omega) f1
    refine wq_mono (r_dtb hT hub hb pn out _ hs1 hpn) (fun s2 p2 => ?_)
    obtain ⟨e1, e2, e3, e4⟩ := r_top hT p2.1
    rw [e1, if_pos (ph_in1 (by omega) e2), ph_ix (by omega), e3]
    have f2 : fr rD σ s2 := fr_tr (fr_tr hfr (fr_mo f1 (fun _ _ => mD_r))) p2.2
    have epop : ∀ x : Int32, (s2.1 0 102) - (1 : Int32) = nI o := by intro _; rw [p2.1.2.2.2.2.2.2.1]; exact nI_pred o
    obtain ⟨a1, g1⟩ := r_pop p2.1 hb
    obtain ⟨a2, g2⟩ := r_open a1 o
    rw [epop 0]
    rcases hu with rfl | hu
    · rw [if_pos (show nI 20 = (20 : Int32) from rfl)]
      rw [if_pos rfl, List.append_nil] at go
      unfold f_X12_qGoesOn_115
      rw [wq_bind]
      refine wq_mono (kA_G (rG_bad a2) (go _ a2 (fr_tr (fr_tr f2 g1) g2))) (fun y z => ?_)
      rw [wq_some, fhK_l]
      exact z
    · have hn20 : ¬ u = 20 := by omega
      rw [if_neg (show ¬ nI _ = (20 : Int32) from nIn hn20 (b := 20) (by omega) (by decide)), if_pos (ph_in1 (by omega) e2)]
      rw [if_neg hn20] at go
      unfold f_X12_qGoesOn_112 f_X12_qGoesOn_115
      have ec : (if nI u = (23 : Int32) then (5 : Int32) else 6) = nI (rEnc (if u = 23 then 8 else 9, 0)) := by
        rcases hu with rfl | rfl <;> rfl
      have hl2 := a2.2.2.2.2.2.1
      have hlen : out.length + (pn.map rDec).length + 1 + wt.length ≤ k := by rw [List.length_map]; omega
      rw [ec, wq_bind]
      refine wq_mono (r_code hT a2 (if u = 23 then 8 else 9, 0) (by rw [List.length_append]; omega)) (fun y z => ?_)
      rw [wq_bind]
      refine wq_mono (kA_G (rG_bad z.1) (go y z.1 (fr_tr (fr_tr (fr_tr f2 g1) g2) z.2))) (fun y2 z2 => ?_)
      rw [wq_some, fhK_l]
      exact z2
  rw [hbr, wq_bind, wq_some]
  rcases hu with rfl | rfl | rfl
  · rw [if_pos (show nI 20 = (20 : Int32) from rfl)]
    exact main
  · rw [if_neg (by decide), wq_bind, wq_some, if_pos (show nI 23 = (23 : Int32) from rfl)]
    exact main
  · rw [if_neg (by decide), wq_bind, wq_some, if_neg (by decide), wq_bind, wq_some, if_pos (show nI 24 = (24 : Int32) from rfl)]
    exact main
/-- no sign of sums, no end of a bracket that waits for one: a fault -/
theorem kG_open {T : tT} (hT : tOK T) {q : Bool} {nl : List (List Nat)} {o k u : Nat} {out : gC} {pn wt : List Nat} {b : Nat} {v : Int32} {σ : fhM} {Q : fhM → Prop} (h : rG T q nl o k out (pn ++ u :: wt) b σ) (hpn : ∀ x ∈ pn, isBr x = false ∧ x ∈ rOps) (hu : u = 20 ∨ u = 23 ∨ u = 24) (hb : b ≤ wt.length) (hn : nosg T k) (hg : ¬ isg T k 41) (hQ : rQ σ Q (1, fm T k)) : wq (kG v σ) Q := by
  have hub : isBr u = true := by rcases hu with rfl | rfl | rfl <;> rfl
  refine kG_head hT h (fun s hs hA hf => ?_)
  refine kG_122 (fun z => hg ((m_sg (c := 41) hT rfl (by decide)).mp z)) ?_
  refine r_122 hT hs hn (fun y hy hA2 hf2 => ?_)
  have hbr := r_bracket hT hy (fun x hx => (hpn x hx).1) hub hb
  have hm1 : ¬ nI u = (-1 : Int32) := ph_m1n (by rcases hu with rfl | rfl | rfl <;> decide)
  have n21 : ¬ nI u = (21 : Int32) := by rcases hu with rfl | rfl | rfl <;> decide
  have n22 : ¬ nI u = (22 : Int32) := by rcases hu with rfl | rfl | rfl <;> decide
  rw [hbr, wq_bind, wq_some, if_neg n21, wq_bind, wq_some, if_neg n22, wq_bind, wq_some, if_neg hm1, if_pos (rG_bad hy), wq_let, wq_some, if_neg fN1, hA2.2]
  obtain ⟨a, f⟩ := m_fail (q := (1, fm T k)) (rG_bad hy)
  have a : mF (1, fm T k) (f_X12_fail 1 (nI (fm T k)) y) := a
  have f : fr mD y (f_X12_fail 1 (nI (fm T k)) y) := f
  exact kLS_q hQ (rF_of hT hy a (Nat.le_of_ble_eq_true rfl) (Nat.le_of_ble_eq_true rfl) (f.2 0 99 (by unfold mD; omega))) (fr_mo (fr_tr (fr_tr hf hf2) f) (fun _ _ => mD_r))
/-- the comma -/
theorem kG_comma {T : tT} (hT : tOK T) {q : Bool} {nl : List (List Nat)} {o k u : Nat} {out : gC} {pn wt : List Nat} {b : Nat} {v : Int32} {σ : fhM} {Q : fhM → Prop} (h : rG T q nl o k out (pn ++ u :: wt) b σ) (hpn : ∀ x ∈ pn, isBr x = false ∧ x ∈ rOps) (hu : u = 21 ∨ u = 22) (hb : b ≤ wt.length) (hn : nosg T k) (hQ : ¬ isg T k 44 → rQ σ Q (1, fm T k))
    (go : isg T k 44 → ∀ s, rG T q nl o (k + 1) (out ++ pn.map rDec) ((u + 2) :: wt) b s → fr rD σ s → wq (k0 v s) Q) : wq (kG v σ) Q := by
  have hub : isBr u = true := by rcases hu with rfl | rfl <;> rfl
  have hl := h.2.2.2.2.2.1
  rw [List.length_append, List.length_cons] at hl
  refine kG_head hT h (fun s hs hA hf => ?_)
  have hbs := r_bracket hT hs (fun x hx => (hpn x hx).1) hub hb
  have n20 : ¬ nI u = (20 : Int32) := by rcases hu with rfl | rfl <;> decide
  have n23 : ¬ nI u = (23 : Int32) := by rcases hu with rfl | rfl <;> decide
  have n24 : ¬ nI u = (24 : Int32) := by rcases hu with rfl | rfl <;> decide
  have main : wq (f_X12_qGoesOn_122 s) (fun q2 => wq (if q2.1 = true then kLS v (1, q2.2) else kLS v (0, q2.2)) Q) := by
    refine r_122 hT hs hn (fun y hy hA2 hf2 => ?_)
    have hbr := r_bracket hT hy (fun x hx => (hpn x hx).1) hub hb
    have m326 : wq (f_X12_qGoesOn_326 y) (fun q2 => wq (if q2.1 = true then kLS v (1, q2.2) else kLS v (0, q2.2)) Q) := by
      unfold f_X12_qGoesOn_326
      rw [wq_bind]
      refine wq_mono (m_asksSign (c := 44) hT rfl (by decide) hy.1) (fun s3 p3 => ?_)
      have ff : fr mD σ s3 := fr_tr (fr_tr hf hf2) p3.2.2
      by_cases z : isg T k 44
      · have hkn := kd_num (isg_k z)
        have h3 := rG_m hy (p3.1 z) (Nat.le_succ k) (by omega) p3.2.2
        rw [if_pos (rG_bad h3), wq_bind]
        refine wq_mono (r_dtb hT hub hb pn out s3 h3 hpn) (fun s4 p4 => ?_)
        obtain ⟨e1, e2, e3, e4⟩ := r_top hT p4.1
        rw [e1, if_pos (by rw [ph_in (by omega), decide_eq_true e2]; rfl), ph_ix (by omega), e3, wq_some, if_pos rfl, show (2 : Int32) = nI 2 from rfl, nI_add]
        have f5 : fr (fun t j => t = 76 ∨ t = 77 ∨ (t = 0 ∧ 99 ≤ j ∧ j ≤ 103)) s4 (fhI s4 77 wt.length (nI (u + 2))) := fr_I fr_rf (Or.inr (Or.inl rfl))
        have h5 : rG T q nl o (k + 1) (out ++ pn.map rDec) ((u + 2) :: wt) b (fhI s4 77 wt.length (nI (u + 2))) := by
          refine rG_w p4.1 f5 (rS_fr p4.1.2.2.2.1 (by simp (disch := omega) only [fhI_e, fhI_o, fhI_s]) (fun i => by simp (disch := omega) only [fhI_e, fhI_o, fhI_s])) ⟨by simp (disch := omega) only [fhI_e, fhI_o, fhI_s]; exact p4.1.2.2.2.2.1.1, by simp (disch := omega) only [fhI_e, fhI_o, fhI_s], by omega, rWc_fr p4.1.2.2.2.2.1.2.2.2 (fun i hi => by simp (disch := omega) only [fhI_e, fhI_o, fhI_s])⟩ p4.1.2.2.2.2.2.1 ?_ ?_ p4.1.2.2.2.2.2.2.2.2.1
          · simp (disch := omega) only [fhI_e, fhI_o, fhI_s]; exact p4.1.2.2.2.2.2.2.1
          · simp (disch := omega) only [fhI_e, fhI_o, fhI_s]; exact p4.1.2.2.2.2.2.2.2.1
        exact kLS_1 (rG_bad h5) (go z _ h5 (fr_tr (fr_tr (fr_mo ff (fun _ _ => mD_r)) p4.2) (rfr f5)))
      · have hF : rF (1, fm T k) s3 := rF_of hT hy (p3.2.1 z) (Nat.le_of_ble_eq_true rfl) (Nat.le_of_ble_eq_true rfl) (p3.2.2.2 0 99 (by unfold mD; omega))
        rw [if_neg (rF_n hF), wq_some, if_neg fN1]
        exact kLS_q (hQ z) hF (fr_mo ff (fun _ _ => mD_r))
    rw [hbr, wq_bind, wq_some]
    rcases hu with rfl | rfl
    · rw [if_pos (show nI 21 = (21 : Int32) from rfl)]
      exact m326
    · rw [if_neg (by decide), wq_bind, wq_some, if_pos (show nI 22 = (22 : Int32) from rfl)]
      exact m326
  by_cases z : mc T k = (41 : Int32)
  · rw [if_pos z, hbs, wq_bind, wq_some, if_neg n20, wq_bind, wq_some, if_neg n23, wq_bind, wq_some, if_neg n24, wq_map]
    exact main
  · exact kG_122 z main
/-- the end of a SUM -/
theorem kLS_end {T : tT} (hT : tOK T) {q : Bool} {nl : List (List Nat)} {o k b' : Nat} {wt : List Nat} {b : Nat} {Q : fhM → Prop} (hb : b = wt.length) (hb' : b' ≤ wt.length) : ∀ (pn : List Nat) (out : gC) (σ : fhM), (∀ x ∈ pn, x ∈ rOps) → rG T q nl o k out (pn ++ wt) b σ → (∀ s, rG T q nl o k (out ++ pn.map rDec) wt b' s → fr rD σ s → Q s) → wq (kLS (nI b') (0, σ)) Q := by
  have hT2 := hT.1
  intro pn out σ hpn h go
  unfold kLS
  refine wq_step ?_
  dsimp only
  unfold f_X12_qSums_15
  rw [if_pos rfl, wq_map]
  simp only [fhK_r]
  induction pn generalizing out σ with
  | nil =>
    have h : rG T q nl o k out wt b σ := h
    have hk := h.2.1
    have hl := h.2.2.2.2.2.1
    refine wq_step ?_
    unfold f_X12_qSums_53 f_X12_qSums_78
    rw [if_pos (rG_bad h), h.2.2.2.2.2.2.2.1, if_pos (show σ.1 0 101 ≤ nI b by rw [h.2.2.2.2.1.1, hb]; exact Int32.le_refl _), wq_map, wq_some, fhK_r]
    obtain ⟨a, f⟩ := r_base h b' hb'
    rw [List.map_nil, List.append_nil] at go
    exact go _ a f
  | cons x r ih =>
    have h : rG T q nl o k out (x :: (r ++ wt)) b σ := h
    have hk := h.2.1
    have hl := h.2.2.2.2.2.1
    rw [List.length_cons, List.length_append] at hl
    refine wq_step ?_
    unfold f_X12_qSums_53
    rw [if_pos (rG_bad h), h.2.2.2.2.2.2.2.1, if_neg (show ¬ σ.1 0 101 ≤ nI b by rw [h.2.2.2.2.1.1, hb]; exact nI_ge (by rw [List.length_cons, List.length_append]; omega) (by rw [List.length_cons, List.length_append]; omega)), wq_bind]
    refine wq_mono (r_drop hT h (by rw [List.length_append]; omega) (hpn x List.mem_cons_self)) (fun s p => ?_)
    rw [wq_some, fhK_l]
    refine ih (out ++ [rDec x]) s (fun y hy => hpn y (List.mem_cons_of_mem _ hy)) p.1 (fun s2 h2 f2 => go s2 ?_ (fr_tr p.2 f2))
    rw [List.append_assoc] at h2
    exact h2
theorem kG_end {T : tT} (hT : tOK T) {q : Bool} {nl : List (List Nat)} {o k b' : Nat} {out : gC} {pn wt : List Nat} {b : Nat} {σ : fhM} {Q : fhM → Prop} (h : rG T q nl o k out (pn ++ wt) b σ) (hpn : ∀ x ∈ pn, isBr x = false ∧ x ∈ rOps) (hb : b = wt.length) (hb' : b' ≤ wt.length) (hn : nosg T k)
    (go : ∀ s, rG T q nl o k (out ++ pn.map rDec) wt b' s → fr rD σ s → Q s) : wq (kG (nI b') σ) Q := by
  refine kG_head hT h (fun s hs hA hf => ?_)
  have hbs := r_brNone hT hs (fun x hx => (hpn x hx).1) hb
  have main : wq (f_X12_qGoesOn_122 s) (fun q2 => wq (if q2.1 = true then kLS (nI b') (1, q2.2) else kLS (nI b') (0, q2.2)) Q) := by
    refine r_122 hT hs hn (fun y hy hA2 hf2 => ?_)
    have hbr := r_brNone hT hy (fun x hx => (hpn x hx).1) hb
    rw [hbr, wq_bind, wq_some, if_neg (by decide), wq_bind, wq_some, if_neg (by decide), wq_bind, wq_some, if_pos (show (-1 : Int32) = -1 from rfl), wq_some, if_neg fN1]
    exact kLS_end hT hb hb' pn out y (fun x hx => (hpn x hx).2) hy (fun s2 h2 f2 => go s2 h2 (fr_tr (fr_mo (fr_tr hf hf2) (fun _ _ => mD_r)) f2))
  by_cases z : mc T k = (41 : Int32)
  · rw [if_pos z, hbs, wq_bind, wq_some, if_neg (by decide), wq_bind, wq_some, if_neg (by decide), wq_bind, wq_some, if_neg (by decide), wq_map]
    exact main
  · exact kG_122 z main
