/-! THE CLASS WORKS A CODE, RULES, FACTS -/
def vsX (σ : fhM) (h : Int32) (gg : Nat → Int32) : fhM := fhU (fhI σ 10 2 h) 14 gg
theorem vsX_0 (σ : fhM) : vsX σ (σ.1 10 2) (σ.1 14) = σ := by
  unfold vsX
  rw [fhI_id rfl]
  exact fhU_id (fun _ => rfl)
theorem vsX_o {σ : fhM} {h : Int32} {gg : Nat → Int32} {t j : Nat} (h1 : t ≠ 14) (h2 : t ≠ 10) : (vsX σ h gg).1 t j = σ.1 t j := by
  unfold vsX
  rw [fhU_o h1, fhI_o h2]
theorem vsX_G {σ : fhM} {h : Int32} {gg : Nat → Int32} {t : Nat} {k : Int32} (h1 : t ≠ 13) (h2 : t ≠ 9) : fcG (vsX σ h gg) t k = fcG σ t k := by
  unfold vsX
  rw [fcG_U (by omega), fcG_I (by omega)]
section
variable {lf : Nat → Int} {lk : Nat → Int → Int} {q : Bool} {g : Nat}
def lvF (q : Bool) (g : Nat) (lf : Nat → Int) (lk : Nat → Int → Int) (σ : fhM) : Prop := (∀ i, okc q g (1, i) = true → fcG σ 11 (nI i) = iI (lf i) ∧ bnd (lf i)) ∧ (∀ b n, okc q g (2, b) = true → bnd n → bnd (lk b n) ∧ iI (lk b n) = if 0 ≤ n ∧ n < 5 then fcG σ 11 (nI b + iI n) else 0)
theorem run_s {c : Nat × Nat} {r : gC} {st x : List Int} (h : run q g lf lk (c :: r) st = some x) : okc q g c = true ∧ ∃ s, stp lf lk c st = some s ∧ s.length ≤ 60 ∧ run q g lf lk r s = some x := by
  unfold run at h
  by_cases hc : okc q g c = true
  · rw [if_pos hc] at h
    cases e : stp lf lk c st with
    | none => rw [e] at h; cases h
    | some s =>
      rw [e] at h
      dsimp only at h
      by_cases hl : s.length ≤ 60
      · rw [if_pos hl] at h; exact ⟨hc, s, rfl, hl, h⟩
      · rw [if_neg hl] at h; cases h
  · rw [if_neg hc] at h; cases h
theorem okc_15 {c : Nat × Nat} (h : okc q g c = true) : c.1 ≤ 15 := by
  obtain ⟨a, b⟩ := c
  rcases Nat.lt_or_ge 15 a with z | z
  · exfalso
    obtain ⟨k, rfl⟩ : ∃ k, a = k + 16 := ⟨a - 16, by omega⟩
    have : (decide (k + 16 ≤ 14) && decide (b < 10000)) = true := h
    rw [decide_eq_false (by omega)] at this
    cases this
  · exact z
theorem okc_w {c : Nat × Nat} (hg : g ≤ 5) (h : okc q g c = true) : c.2 < 10000 := by
  have h15 := okc_15 h
  obtain ⟨op, w⟩ := c
  have h15 : op ≤ 15 := h15
  show w < 10000
  have gen : 3 ≤ op ∧ op ≤ 14 → okc q g (op, w) = (decide (op ≤ 14) && decide (w < 10000)) := by
    rintro ⟨o1, o2⟩
    have : op = 3 ∨ op = 4 ∨ op = 5 ∨ op = 6 ∨ op = 7 ∨ op = 8 ∨ op = 9 ∨ op = 10 ∨ op = 11 ∨ op = 12 ∨ op = 13 ∨ op = 14 := by omega
    rcases this with rfl | rfl | rfl | rfl | rfl | rfl | rfl | rfl | rfl | rfl | rfl | rfl <;> rfl
  have cases16 : op = 0 ∨ op = 15 ∨ op = 1 ∨ op = 2 ∨ (3 ≤ op ∧ op ≤ 14) := by omega
  rcases cases16 with rfl | rfl | rfl | rfl | hop
  · exact of_decide_eq_true h
  · have : w = 1 := of_decide_eq_true h
    omega
  · cases q with
    | true =>
      have h : (decide (10 ≤ w) && decide (w ≤ 14)) = true := h
      simp only [Bool.and_eq_true, decide_eq_true_eq] at h
      omega
    | false =>
      have h : (decide (w < g) || (decide (5 ≤ w) && decide (w ≤ 8))) = true := h
      simp only [Bool.or_eq_true, Bool.and_eq_true, decide_eq_true_eq] at h
      omega
  · cases q with
    | true =>
      have h : (decide (w = 20) || decide (w = 25)) = true := h
      simp only [Bool.or_eq_true, decide_eq_true_eq] at h
      omega
    | false =>
      have h : w = 15 := of_decide_eq_true h
      omega
  · rw [gen hop] at h
    simp only [Bool.and_eq_true, decide_eq_true_eq] at h
    exact h.2
theorem vst_G {σ : fhM} {n : Nat} {gg : Nat → Int32} {k : Int32} : fcG (vst σ n gg) 11 k = fcG σ 11 k := vsX_G (by decide) (by decide)
theorem c_work {σ : fhM} (hl : lvF q g lf lk σ) {c : Nat × Nat} {st s : List Int} {gg : Nat → Int32} (hc : okc q g c = true) (h : stp lf lk c st = some s) (hs : skF st gg) (hb : ∀ v ∈ st, bnd v) (h60 : st.length ≤ 60) :
    ∃ gg', f_X10_work (nI (if c.1 = 15 then 0 else c.1)) (nI c.2) (vst σ st.length gg) = some (vst σ s.length gg') ∧ skF s gg' ∧ ∀ v ∈ s, bnd v := by
  obtain ⟨op, w⟩ := c
  have h15 := okc_15 hc
  have push : ∀ (r : List Int) (g2 : Nat → Int32) (v : Int), r.length ≤ 60 → skF r g2 → (∀ x ∈ r, bnd x) → bnd v → f_X10_push (iI v) (vst σ r.length g2) = vst σ (v :: r).length (fun j => if j = r.length then iI v else g2 j) ∧ skF (v :: r) (fun j => if j = r.length then iI v else g2 j) ∧ ∀ x ∈ v :: r, bnd x := by
    intro r g2 v hr h1 h2 h3
    refine ⟨c_push (by omega), ⟨if_pos rfl, skF_fr h1 (fun j hj => if_neg (by omega))⟩, fun x hx => ?_⟩
    rcases List.mem_cons.mp hx with rfl | hx
    · exact h3
    · exact h2 x hx
  have h15 : op ≤ 15 := h15
  have i0 : ¬ (nI op = (0 : Int32)) ∨ op = 0 := by
    by_cases z : op = 0
    · exact Or.inr z
    · exact Or.inl (by rw [ph_0]; exact nIn z (by omega) (by decide))
  have cases16 : op = 0 ∨ op = 15 ∨ op = 1 ∨ op = 2 ∨ op = 3 ∨ (4 ≤ op ∧ op ≤ 14) := by omega
  rcases cases16 with rfl | rfl | rfl | rfl | rfl | hop
  · have hw : decide (w < 10000) = true := hc
    have hw := of_decide_eq_true hw
    cases h
    have hwb : bnd (w : Int) := by unfold bnd; omega
    obtain ⟨p1, p2, p3⟩ := push st gg (w : Int) h60 hs hb hwb
    refine ⟨_, ?_, p2, p3⟩
    rw [← p1, iI_n (by omega)]
    rfl
  · have hw : decide (w = 1) = true := hc
    have hw := of_decide_eq_true hw
    subst hw
    cases h
    obtain ⟨p1, p2, p3⟩ := push st gg 1 h60 hs hb (by unfold bnd; omega)
    refine ⟨_, ?_, p2, p3⟩
    rw [← p1, ← iI_1]
    rfl
  · cases h
    obtain ⟨l1, l2⟩ := hl.1 w hc
    obtain ⟨p1, p2, p3⟩ := push st gg (lf w) h60 hs hb l2
    refine ⟨_, ?_, p2, p3⟩
    rw [← p1, ← l1, ← vst_G (σ := σ) (n := st.length) (gg := gg)]
    rfl
  · have h : st2 (lk w) st = some s := h
    cases st with
    | nil => cases h
    | cons n r =>
      cases h
      have hn := hb n List.mem_cons_self
      obtain ⟨l1, l2⟩ := hl.2 w n hc hn
      have h60' : r.length + 1 ≤ 60 := h60
      obtain ⟨p1, p2, p3⟩ := push r gg (lk w n) (by omega) hs.2 (fun x hx => hb x (List.mem_cons_of_mem _ hx)) l1
      refine ⟨_, ?_, p2, p3⟩
      rw [← p1, l2]
      have hpop : f_X10_pop (vst σ (n :: r).length gg) = (iI n, vst σ r.length gg) := by
        rw [show (n :: r).length = r.length + 1 from rfl, c_pop (by omega), hs.1]
      show f_X10_work (nI 2) (nI w) (vst σ (n :: r).length gg) = _
      unfold f_X10_work
      rw [if_neg (show ¬ nI 2 = (0 : Int32) by decide), if_neg (show ¬ nI 2 = (1 : Int32) by decide), if_pos (show nI 2 = (2 : Int32) from rfl), hpop]
      unfold fhlet
      dsimp only
      unfold bnd at hn
      have e1 : (iI n < 0) = (n < 0) := by rw [iI_0]; exact iI_ltP (by omega) (by omega) (by omega) (by omega)
      have e2 : ((5 : Int32) ≤ iI n) = (5 ≤ n) := by rw [show (5 : Int32) = iI 5 by decide +kernel]; exact iI_leP (by omega) (by omega) (by omega) (by omega)
      simp only [e1, e2]
      by_cases q1 : n < 0
      · rw [if_pos q1, if_neg (by omega)]
        rfl
      · rw [if_neg q1]
        by_cases q2 : 5 ≤ n
        · rw [if_pos q2, if_neg (by omega)]
          rfl
        · rw [if_neg q2, if_pos (by omega), vst_G]
          rfl
  · have h : st3 st = some s := h
    cases st with
    | nil => cases h
    | cons v r =>
      unfold st3 at h
      dsimp only at h
      by_cases hv : v = 0 ∨ v = 1
      · rw [if_pos hv] at h
        cases h
        have h60' : r.length + 1 ≤ 60 := h60
        obtain ⟨p1, p2, p3⟩ := push r gg (1 - v) (by omega) hs.2 (fun x hx => hb x (List.mem_cons_of_mem _ hx)) (by unfold bnd; omega)
        refine ⟨_, ?_, p2, p3⟩
        rw [← p1, ← iI_sub, ← iI_1]
        have hpop : f_X10_pop (vst σ (v :: r).length gg) = (iI v, vst σ r.length gg) := by
          rw [show (v :: r).length = r.length + 1 from rfl, c_pop (by omega), hs.1]
        show f_X10_work (nI 3) (nI w) (vst σ (v :: r).length gg) = _
        unfold f_X10_work
        rw [if_neg (show ¬ nI 3 = (0 : Int32) by decide), if_neg (show ¬ nI 3 = (1 : Int32) by decide), if_neg (show ¬ nI 3 = (2 : Int32) by decide), if_pos (show nI 3 = (3 : Int32) from rfl), hpop]
        rfl
      · rw [if_neg hv] at h; cases h
  · rw [stp4 hop] at h
    match st, h, hs, hb, h60 with
    | [], h, _, _, _ => cases h
    | [_], h, _, _, _ => cases h
    | b :: a :: r, h, hs, hb, h60 =>
      unfold st4 at h
      dsimp only at h
      by_cases hv : op ≤ 12 ∨ ((a = 0 ∨ a = 1) ∧ (b = 0 ∨ b = 1))
      · rw [if_pos hv] at h
        cases h
        have h60' : r.length + 1 + 1 ≤ 60 := h60
        have ha := hb a (List.mem_cons_of_mem _ List.mem_cons_self)
        have hbb := hb b List.mem_cons_self
        obtain ⟨p1, p2, p3⟩ := push r gg (bop op a b) (by omega) hs.2.2 (fun x hx => hb x (List.mem_cons_of_mem _ (List.mem_cons_of_mem _ hx))) (bop_b ha hbb)
        refine ⟨_, ?_, p2, p3⟩
        rw [← p1]
        have hpop1 : f_X10_pop (vst σ (b :: a :: r).length gg) = (iI b, vst σ (r.length + 1) gg) := by
          rw [show (b :: a :: r).length = r.length + 1 + 1 from rfl, c_pop (by omega)]
          rw [show gg (r.length + 1) = iI b from hs.1]
        have hpop2 : f_X10_pop (vst σ (r.length + 1) gg) = (iI a, vst σ r.length gg) := by
          rw [c_pop (by omega)]
          rw [show gg r.length = iI a from hs.2.1]
        have e15 : (if op = 15 then 0 else op) = op := if_neg (by omega)
        show f_X10_work (nI (if op = 15 then 0 else op)) (nI w) (vst σ (b :: a :: r).length gg) = _
        rw [e15]
        unfold f_X10_work
        rw [if_neg (show ¬ nI op = (0 : Int32) from nIn (a := op) (b := 0) (by omega) (by omega) (by decide)), if_neg (show ¬ nI op = (1 : Int32) from nIn (a := op) (b := 1) (by omega) (by omega) (by decide)), if_neg (show ¬ nI op = (2 : Int32) from nIn (a := op) (b := 2) (by omega) (by omega) (by decide)), if_neg (show ¬ nI op = (3 : Int32) from nIn (a := op) (b := 3) (by omega) (by omega) (by decide)), hpop1]
        unfold fhlet
        dsimp only
        rw [hpop2]
        dsimp only
        by_cases q1 : 10 ≤ op
        · rw [if_pos (show (10 : Int32) ≤ nI op from nI_le (a := 10) q1 (by omega)), c_judge ⟨q1, hop.2⟩ ha hbb]
          rfl
        · rw [if_neg (show ¬ (10 : Int32) ≤ nI op from nI_ge (b := 10) (by omega) (by decide)), c_reckon ⟨hop.1, by omega⟩ ha hbb]
          rfl
      · rw [if_neg hv] at h; cases h
/-- a code at place K + 2 from a on -/
def cdA (K a : Nat) (c : gC) (σ : fhM) : Prop := ∀ i x, c[i]? = some x → fcG σ (K + 1) (nI (a + i)) = nI (sEnc x)
theorem c_valueL {K : Nat} (hg : g ≤ 5) (hK : K ≠ 12 ∧ K ≠ 8) {σ : fhM} (hl : lvF q g lf lk σ) {v : Int} : ∀ (c : gC) (a : Nat) (st : List Int) (gg : Nat → Int32), run q g lf lk c st = some [v] → skF st gg → (∀ x ∈ st, bnd x) → st.length ≤ 60 → cdA K a c σ → a + c.length ≤ 1600 →
    wq (fhlp (fun x => f_X10_value_8 K (nI (a + c.length)) x.1 x.2) (nI a, vst σ st.length gg)) (fun r => r.1 = iI v ∧ bnd v ∧ ∃ g2, r.2 = vst σ 0 g2) := by
  intro c
  induction c with
  | nil =>
    intro a st gg h hs hb h60 hc ha
    cases h
    refine wq_step ?_
    (try dsimp only)
    (try unfold f_X10_value_8)
    rw [if_pos (nI_le (by show a + 0 ≤ a; omega) (by omega)), wq_let, wq_some, fhK_r]
    have hpop : f_X10_pop (vst σ [v].length gg) = (gg 0, vst σ 0 gg) := c_pop (by decide)
    rw [hpop]
    exact ⟨hs.1, hb v List.mem_cons_self, gg, rfl⟩
  | cons x r ih =>
    intro a st gg h hs hb h60 hc ha
    obtain ⟨hx, s, h1, h2, h3⟩ := run_s h
    have hlen : (x :: r).length = r.length + 1 := rfl
    rw [hlen] at ha ⊢
    obtain ⟨gg', w1, w2, w3⟩ := c_work hl hx h1 hs hb h60
    have h15 := okc_15 hx
    refine wq_step ?_
    (try dsimp only)
    (try unfold f_X10_value_8)
    have e0 : fcG (vst σ st.length gg) (K + 1) (nI a) = nI (sEnc x) := by
      have e1 : fcG (vst σ st.length gg) (K + 1) (nI a) = fcG σ (K + 1) (nI a) := vsX_G (by omega) (by omega)
      rw [e1]
      exact hc 0 x rfl
    have hw := okc_w hg hx
    have hsm : sEnc x < 2 ^ 31 := by
      unfold sEnc
      split <;> omega
    have e2 : nI (sEnc x) &&& (15 : Int32) = nI (if x.1 = 15 then 0 else x.1) := by
      rw [pk_andN (by omega) 4 (by decide)]
      unfold sEnc
      congr 1
      split <;> omega
    have e3 : nI (sEnc x) >>> ((4 : Int32) &&& 31) = nI x.2 := by
      rw [show (4 : Int32) = nI 4 from rfl, ph_shr hsm (by decide)]
      unfold sEnc
      congr 1
      split <;> omega
    rw [if_neg (nI_ge (by omega) (by omega)), e0, e2, e3, wq_bind, w1, wq_some, wq_some, fhK_l, nI_1]
    have hh := ih (a + 1) s gg' h3 w2 w3 h2 (fun i y hy => by
      rw [show a + 1 + i = a + (i + 1) by omega]
      exact hc (i + 1) y hy) (by omega)
    rw [show a + 1 + r.length = a + (r.length + 1) by omega] at hh
    exact hh
theorem c_value {K : Nat} (hg : g ≤ 5) (hK : K ≠ 12 ∧ K ≠ 8) {σ : fhM} (hl : lvF q g lf lk σ) {v : Int} {c : gC} {a : Nat} (h : run q g lf lk c [] = some [v]) (hc : cdA K a c σ) (ha : a + c.length ≤ 1600) (hh : Int32) (gg : Nat → Int32) :
    wq (f_X10_value K (nI a) (nI (a + c.length)) (vsX σ hh gg)) (fun r => r.1 = iI v ∧ bnd v ∧ ∃ g2, r.2 = vst σ 0 g2) := by
  unfold f_X10_value
  have e : fhI (vsX σ hh gg) 10 2 (0 : Int32) = vst σ ([] : List Int).length gg := by
    unfold vsX vst
    rw [fhU_IO (by decide), fhI_I]
    rfl
  rw [e]
  exact c_valueL hg hK hl c a [] gg h trivial (fun x hx => by cases hx) (Nat.zero_le _) hc ha
/-- what a code comes to -/
noncomputable def evc (q : Bool) (g : Nat) (lf : Nat → Int) (lk : Nat → Int → Int) (c : gC) : Int := match run q g lf lk c [] with
  | some (v :: _) => v
  | _ => 0
theorem evc_T {T : tT} {nl : List (List Nat)} (hg : nl.length ≤ g) {n k j : Nat} {c : gC} (h : rd T q nl n 0 0 k = some (.inr (j, c))) : bt (evc q g lf lk c) ∧ run q g lf lk c [] = some [evc q g lf lk c] := by
  have := rd_ty (lf := lf) (lk := lk) hg n 0 0 k j c h (Nat.zero_le _) [] (by decide)
  obtain ⟨v, h1, h2⟩ := this
  have e : evc q g lf lk c = v := by unfold evc; rw [h2]
  rw [e]
  exact ⟨h1, h2⟩
theorem evc_S {T : tT} {nl : List (List Nat)} (hg : nl.length ≤ g) {n k j : Nat} {c : gC} (h : rd T q nl n 3 0 k = some (.inr (j, c))) : run q g lf lk c [] = some [evc q g lf lk c] := by
  have := rd_ty (lf := lf) (lk := lk) hg n 3 0 k j c h (Nat.zero_le _) [] (by decide)
  obtain ⟨v, h2⟩ := this
  have e : evc q g lf lk c = v := by unfold evc; rw [h2]
  rw [e]
  exact h2
end
/-- the codes of a parlour's tests in the class -/
def cdL (t K : Nat) (cs : List gC) (σ : fhM) : Prop := ∀ r c, cs[r]? = some c → ∃ a, fcG σ t (nI (2 * r)) = nI a ∧ fcG σ t (nI (2 * r + 1)) = nI (a + c.length) ∧ a + c.length ≤ 1600 ∧ cdA K a c σ
def cdF (P : Nat) (p : fhPS) (σ : fhM) : Prop := σ.1 P 11 = nI p.ru.length ∧ σ.1 P 12 = nI p.fa.length ∧ cdL (P + 6) (P + 1) p.ru σ ∧ cdL (P + 8) (P + 1) p.fa σ
theorem cdL_of {P t N : Nat} {cs : List gC} {out : gC} {σ : fhM} (hP : fhiP P = true) (h : cTs (t + 1) cs out σ) (hs : cS (P + 1) out σ) (hN : fcL t = 2 * N) (hl : cs.length ≤ N) (hN2 : N ≤ 100) : cdL t (P + 1) cs σ := by
  have hp := ph_P hP
  have hK : fhiK (P + 1) = true := by rcases hp with rfl | rfl <;> rfl
  intro r c hc
  have hr := (List.getElem?_eq_some_iff.mp hc).1
  obtain ⟨a, h1, h2, h3, h4⟩ := h r c hc
  obtain ⟨s1, s2, s3⟩ := hs
  refine ⟨a, ?_, ?_, by omega, fun i x hx => ?_⟩
  · rw [fcG_at hN (by omega) (by omega)]; exact h1
  · rw [fcG_at hN (by omega) (by omega)]; exact h2
  · have hi := (List.getElem?_eq_some_iff.mp hx).1
    rw [fcG_at (fcL_K hK) (by omega) (by omega)]
    exact (s3 (a + i) x (by rw [h4 i hi]; exact hx)).2.2
theorem cdF_of {P : Nat} {p : fhPS} {out : gC} {σ : fhM} (hP : fhiP P = true) (h : cRp P p out σ) (h4 : p.ru.length ≤ 4) (h8 : p.fa.length ≤ 8) : cdF P p σ := by
  obtain ⟨h1, h2, h3, h4', h5, h6, h7, h8', h9, h10, h11, h12⟩ := h
  refine ⟨h4', h5, cdL_of (N := 4) hP h10 h12 (fcL_P6 hP) h4 (by decide), cdL_of (N := 8) hP h11 h12 (fcL_P8 hP) h8 (by decide)⟩
theorem cdL_fr {t K : Nat} {cs : List gC} {σ s : fhM} (h : cdL t K cs σ) (h1 : ∀ k, fcG s t k = fcG σ t k) (h2 : ∀ k, fcG s (K + 1) k = fcG σ (K + 1) k) : cdL t K cs s := by
  intro r c hc
  obtain ⟨a, a1, a2, a3, a4⟩ := h r c hc
  exact ⟨a, by rw [h1]; exact a1, by rw [h1]; exact a2, a3, fun i x hx => by rw [h2]; exact a4 i x hx⟩
theorem cdF_fr {P : Nat} {p : fhPS} {σ s : fhM} (h : cdF P p σ) (h0 : ∀ j, s.1 P j = σ.1 P j) (h1 : ∀ t k, P ≤ t → t ≤ P + 10 → fcG s t k = fcG σ t k) : cdF P p s :=
  ⟨by rw [h0]; exact h.1, by rw [h0]; exact h.2.1, cdL_fr h.2.2.1 (fun k => h1 _ _ (by omega) (by omega)) (fun k => h1 _ _ (by omega) (by omega)), cdL_fr h.2.2.2 (fun k => h1 _ _ (by omega) (by omega)) (fun k => h1 _ _ (by omega) (by omega))⟩
/-- every test of a parlour runs well, by leaves lf, lk -/
def evOK (g : Nat) (lf : Nat → Int) (lk : Nat → Int → Int) (cs : List gC) : Prop := ∀ c ∈ cs, bt (evc false g lf lk c) ∧ run false g lf lk c [] = some [evc false g lf lk c]
noncomputable def hol (g : Nat) (lf : Nat → Int) (lk : Nat → Int → Int) (c : gC) : Bool := decide (evc false g lf lk c = 1)
theorem bt_0 {v : Int} (h : bt v) : (iI v = 0) = (decide (v = 1) = false) := by
  rcases h with rfl | rfl
  · rw [iI_0]; decide +kernel
  · rw [iI_0, iI_eqP (by omega) (by omega) (by omega) (by omega)]; decide
section
variable {g : Nat} {lf : Nat → Int} {lk : Nat → Int → Int} {P : Nat} {p : fhPS}
theorem c_rulesHold (hP : fhiP P = true) (hg : g ≤ 5) {σ : fhM} (hl : lvF false g lf lk σ) (hd : cdF P p σ) (h4 : p.ru.length ≤ 4) (hr : evOK g lf lk p.ru) :
    wq (f_X7_rulesHold P σ) (fun r => r.1 = p.ru.all (hol g lf lk) ∧ ∃ hh gg, r.2 = vsX σ hh gg) := by
  have hp := ph_P hP
  unfold f_X7_rulesHold
  refine wq_for (R := fun i x => x.1 = nI i ∧ (p.ru.take i).all (hol g lf lk) = true ∧ ∃ hh gg, x.2 = vsX σ hh gg) 0 p.ru.length (Nat.zero_le _) ?_ ?_ ⟨rfl, rfl, _, _, (vsX_0 σ).symm⟩
  · rintro i ⟨x, s⟩ - hi ⟨rfl, ha, hh, gg, rfl⟩
    (try dsimp only)
    unfold f_X7_rulesHold_2
    obtain ⟨c, hc⟩ : ∃ c, p.ru[i]? = some c := ⟨_, List.getElem?_eq_getElem hi⟩
    obtain ⟨a, a1, a2, a3, a4⟩ := hd.2.2.1 i c hc
    have hcm := List.mem_of_getElem? hc
    obtain ⟨b1, b2⟩ := hr c hcm
    rw [vsX_o (by omega) (by omega), hd.1, if_neg (nI_ge hi (by omega)), wq_bind, vsX_G (by omega) (by omega), vsX_G (by omega) (by omega), show (2 : Int32) = nI 2 from rfl, pk_mul, nI_1, a1, a2]
    refine wq_mono (c_value hg (by omega) hl b2 a4 a3 hh gg) (fun r z => ?_)
    obtain ⟨z1, z2, g2, z3⟩ := z
    have htk : p.ru.take (i + 1) = p.ru.take i ++ [c] := by rw [List.take_add_one, hc]; rfl
    rw [z1]
    by_cases q : evc false g lf lk c = 1
    · rw [if_neg (show ¬ iI (evc false g lf lk c) = 0 by rw [bt_0 b1, decide_eq_true q]; decide), wq_some, fhK_l, nI_1]
      refine ⟨rfl, ?_, _, g2, z3⟩
      rw [htk, List.all_append, ha]
      simp [hol, q]
    · rw [if_pos (show iI (evc false g lf lk c) = 0 by rw [bt_0 b1, decide_eq_false q]), wq_some, fhK_r]
      refine ⟨?_, _, g2, z3⟩
      symm
      rw [Bool.eq_false_iff]
      intro z
      have := List.all_eq_true.mp z c hcm
      exact q (of_decide_eq_true this)
  · rintro ⟨x, s⟩ ⟨rfl, ha, hh, gg, rfl⟩
    (try dsimp only)
    unfold f_X7_rulesHold_2
    rw [vsX_o (by omega) (by omega), hd.1, if_pos (nI_le (Nat.le_refl _) (by omega)), wq_some, fhK_r]
    rw [List.take_length] at ha
    exact ⟨ha.symm, hh, gg, rfl⟩
/-- bits of a list of truths, from bit i on -/
def bitsN : List Bool → Nat → Nat
  | [], _ => 0
  | b :: r, i => (bif b then 2 ^ i else 0) ||| bitsN r (i + 1)
theorem bitsN_app (x : Bool) : ∀ (l : List Bool) (i : Nat), bitsN (l ++ [x]) i = bitsN l i ||| (bif x then 2 ^ (i + l.length) else 0) := by
  intro l
  induction l with
  | nil => intro i; show (bif x then 2 ^ i else 0) ||| 0 = 0 ||| _; rw [Nat.or_zero, Nat.zero_or]; rfl
  | cons b r ih =>
    intro i
    show (bif b then 2 ^ i else 0) ||| bitsN (r ++ [x]) (i + 1) = ((bif b then 2 ^ i else 0) ||| bitsN r (i + 1)) ||| _
    rw [ih, Nat.or_assoc, show i + 1 + r.length = i + (b :: r).length by rw [List.length_cons]; omega]
theorem bitsN_lt : ∀ (l : List Bool) (i : Nat), bitsN l i < 2 ^ (i + l.length) := by
  intro l
  induction l with
  | nil => intro i; exact Nat.two_pow_pos _
  | cons b r ih =>
    intro i
    have h := ih (i + 1)
    rw [List.length_cons, show i + (r.length + 1) = i + 1 + r.length by omega]
    refine Nat.or_lt_two_pow ?_ h
    have : 2 ^ i < 2 ^ (i + 1 + r.length) := Nat.pow_lt_pow_right (by decide) (by omega)
    cases b
    · exact Nat.two_pow_pos _
    · exact this
theorem c_truthBits (hP : fhiP P = true) (hg : g ≤ 5) {σ : fhM} (hl : lvF false g lf lk σ) (hd : cdF P p σ) (h8 : p.fa.length ≤ 8) (hr : evOK g lf lk p.fa) (hh : Int32) (gg : Nat → Int32) :
    wq (f_X7_truthBits P (vsX σ hh gg)) (fun r => r.1 = nI (bitsN (p.fa.map (hol g lf lk)) 0) ∧ ∃ hh gg, r.2 = vsX σ hh gg) := by
  have hp := ph_P hP
  unfold f_X7_truthBits
  refine wq_for (R := fun i x => x.1 = nI (bitsN ((p.fa.take i).map (hol g lf lk)) 0) ∧ x.2.1 = nI i ∧ ∃ hh gg, x.2.2 = vsX σ hh gg) 0 p.fa.length (Nat.zero_le _) ?_ ?_ ⟨rfl, rfl, _, _, rfl⟩
  · rintro i ⟨x, y, s⟩ - hi ⟨rfl, rfl, hh, gg, rfl⟩
    (try dsimp only)
    unfold f_X7_truthBits_4
    obtain ⟨c, hc⟩ : ∃ c, p.fa[i]? = some c := ⟨_, List.getElem?_eq_getElem hi⟩
    obtain ⟨a, a1, a2, a3, a4⟩ := hd.2.2.2 i c hc
    have hcm := List.mem_of_getElem? hc
    obtain ⟨b1, b2⟩ := hr c hcm
    rw [vsX_o (by omega) (by omega), hd.2.1, if_neg (nI_ge hi (by omega)), wq_bind, vsX_G (by omega) (by omega), vsX_G (by omega) (by omega), show (2 : Int32) = nI 2 from rfl, pk_mul, nI_1, a1, a2]
    refine wq_mono (c_value hg (by omega) hl b2 a4 a3 hh gg) (fun r z => ?_)
    obtain ⟨z1, z2, g2, z3⟩ := z
    have htk : p.fa.take (i + 1) = p.fa.take i ++ [c] := by rw [List.take_add_one, hc]; rfl
    rw [z1, wq_some, fhK_l, nI_1]
    refine ⟨?_, rfl, _, g2, z3⟩
    have hlen : ((p.fa.take i).map (hol g lf lk)).length = i := by rw [List.length_map, List.length_take]; omega
    rw [htk, List.map_append, show [c].map (hol g lf lk) = [hol g lf lk c] from rfl, bitsN_app, hlen, ← ph_or, Nat.zero_add]
    congr 1
    rcases b1 with q | q
    · rw [q, show hol g lf lk c = false from decide_eq_false (by rw [q]; decide), ← iI_0, ph_0, ph_shl (by omega) (by rw [Nat.zero_mul]; decide), Nat.zero_mul]
      rfl
    · rw [q, show hol g lf lk c = true from decide_eq_true q, ← iI_1, ph_shl1 (by omega)]
      rfl
  · rintro ⟨x, y, s⟩ ⟨rfl, rfl, hh, gg, rfl⟩
    (try dsimp only)
    unfold f_X7_truthBits_4
    rw [vsX_o (by omega) (by omega), hd.2.1, if_pos (nI_le (Nat.le_refl _) (by omega)), wq_some, fhK_r]
    rw [List.take_length]
    exact ⟨rfl, hh, gg, rfl⟩
end
