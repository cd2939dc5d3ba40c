/-! QUESTIONS: what all guests' answers come to; the class's answer -/
def fiQ (f : Nat → Int) : Nat → Int
  | 0 => -1
  | k + 1 => if f k = 0 then fiQ f k else if fiQ f k = -1 then (k : Nat) else fiQ f k
def laQ (f : Nat → Int) : Nat → Int
  | 0 => -1
  | k + 1 => if f k = 0 then laQ f k else (k : Nat)
def ofQ (f : Nat → Int) : Nat → Int
  | 0 => 0
  | k + 1 => if f k = 0 then ofQ f k else ofQ f k + 1
def toQ (f : Nat → Int) : Nat → Int
  | 0 => 0
  | k + 1 => toQ f k + f k
def moQ (f : Nat → Int) : Nat → Int
  | 0 => 0
  | k + 1 => if k = 0 then f k else if moQ f k < f k then f k else moQ f k
def leQ (f : Nat → Int) : Nat → Int
  | 0 => 0
  | k + 1 => if k = 0 then f k else if f k < leQ f k then f k else leQ f k
def ansQ (q : Nat) (f : Nat → Int) (g : Nat) : Int := if q = 0 then fiQ f g else if q = 1 then laQ f g else if q = 2 then ofQ f g else if q = 3 then toQ f g else if q = 4 then moQ f g else leQ f g
theorem q_bnd {f : Nat → Int} : ∀ {k : Nat}, (∀ i, i < k → bnd (f i)) → (-1 ≤ fiQ f k ∧ fiQ f k ≤ k) ∧ (-1 ≤ laQ f k ∧ laQ f k ≤ k) ∧ (0 ≤ ofQ f k ∧ ofQ f k ≤ k) ∧ (-1000000 * (k : Int) ≤ toQ f k ∧ toQ f k ≤ 1000000 * (k : Int)) ∧ bnd (moQ f k) ∧ bnd (leQ f k)
  | 0, _ => by
    unfold fiQ laQ ofQ toQ moQ leQ bnd
    omega
  | k + 1, h => by
    have ih := q_bnd (f := f) (k := k) (fun i hi => h i (by omega))
    have hk := h k (Nat.lt_succ_self k)
    unfold bnd at ih hk ⊢
    obtain ⟨a, b, c, d, e, g⟩ := ih
    unfold fiQ laQ ofQ toQ moQ leQ
    refine ⟨?_, ?_, ?_, ?_, ?_, ?_⟩
    · split
      · omega
      · split <;> omega
    · split <;> omega
    · split <;> omega
    · omega
    · split
      · exact hk
      · split
        · exact hk
        · exact e
    · split
      · exact hk
      · split
        · exact hk
        · exact g
theorem iI_max {a b : Int} (ha : bnd a) (hb : bnd b) (σ : fhM) : f_J9_max_7cf53 (iI a) (iI b) σ = iI (if a < b then b else a) := by
  unfold bnd at ha hb
  unfold f_J9_max_7cf53
  by_cases c : a < b
  · rw [if_pos (by rw [iI_ltP (by omega) (by omega) (by omega) (by omega)]; exact c), if_pos c]
  · rw [if_neg (by rw [iI_ltP (by omega) (by omega) (by omega) (by omega)]; exact c), if_neg c]
theorem iI_min {a b : Int} (ha : bnd a) (hb : bnd b) (σ : fhM) : f_J9_min_7cf53 (iI a) (iI b) σ = iI (if b < a then b else a) := by
  unfold bnd at ha hb
  unfold f_J9_min_7cf53
  by_cases c : b < a
  · rw [if_pos (by rw [iI_ltP (by omega) (by omega) (by omega) (by omega)]; exact c), if_pos c]
  · rw [if_neg (by rw [iI_ltP (by omega) (by omega) (by omega) (by omega)]; exact c), if_neg c]
theorem vsX_12 {σ : fhM} {t t2 : Nat → Int32} {h : Int32} {gg : Nat → Int32} : fhU (vsX (fhU σ 12 t) h gg) 12 t2 = vsX (fhU σ 12 t2) h gg := by
  unfold vsX
  rw [fhU_UO (show 12 ≠ 14 by decide), fhU_IO (show 10 ≠ 12 by decide), fhU_U, fhU_IO (show 10 ≠ 12 by decide)]
theorem lvF_t {q : Bool} {g : Nat} {lf : Nat → Int} {lk : Nat → Int → Int} {a b : fhM} {t : Nat → Int32} (h : lvF q g lf lk (fhU a 12 t)) : lvF q g lf lk (fhU b 12 t) := by
  have e : ∀ k, fcG (fhU b 12 t) 11 k = fcG (fhU a 12 t) 11 k := fun k => by
    unfold fcG
    rw [fhU_e, fhU_e]
  exact ⟨fun i hi => by rw [e]; exact h.1 i hi, fun b n hb hn => by rw [e]; exact h.2 b n hb hn⟩
theorem vsX_p {σ : fhM} {t : Nat → Int32} {h : Int32} {gg : Nat → Int32} {a j : Nat} (h1 : a ≠ 10) (h2 : a ≠ 12) (h3 : a ≠ 14) : (vsX (fhU σ 12 t) h gg).1 a j = σ.1 a j := by
  unfold vsX
  rw [fhU_o h3, fhI_o h1, fhU_o h2]
section
variable {W : gW} {L : Nat → Bool} {w0 rd : Nat}
theorem c_answer (hW : wOK W) {σ : fhM} (hrw : rwF W σ) (hg : gmF W L w0 rd σ) (h51 : ∀ i, i < W.g → σ.1 51 i = nI (W.sb i)) (hw0 : 0 < W.g → w0 ∈ rl W.N L) (hr : rd ≤ 999) {c : gC} (hS : cS 6 c σ) {f : Nat → Int} (hf : ∀ i, i < W.g → run true W.g (lfQ W (rl W.N L) w0 rd i) (lkQ W (rl W.N L) w0 i) c [] = some [f i]) {q : Nat} (hq : q ≤ 5) :
    wq (f_X11_answer (nI (26 + q)) σ) (fun r => r.1 = lI (ansQ q f W.g) ∧ ∃ t h gg, r.2 = vsX (fhU σ 12 t) h gg) := by
  have hg5 := hW.1
  obtain ⟨s1, s2, s3⟩ := hS
  have hfb : ∀ i, i < W.g → bnd (f i) := fun i hi => by
    have := c_value (K := 6) hg5 (by decide) (σ := fhU σ 12 (fun _ => 0)) (lf := lfQ W (rl W.N L) w0 rd i) (lk := lkQ W (rl W.N L) w0 i) (q := true) (g := W.g) (a := 0) (c := c) (v := f i)
    obtain ⟨s, e, t, rfl, hl⟩ := c_fillG hW hrw hg h51 (hw0 (by omega)) hi hr
    obtain ⟨r, e2, h1, h2, h3⟩ := c_value (K := 6) hg5 (by decide) hl (hf i hi) (a := 0) (fun k x hx => by rw [Nat.zero_add, cg7 (by have := (List.getElem?_eq_some_iff.mp hx).1; omega), fhU_o (by decide)]; exact (s3 k x hx).2.2) (by omega) 0 (fun _ => 0)
    exact h2
  have id0 : σ = vsX (fhU σ 12 (σ.1 12)) (σ.1 10 2) (σ.1 14) := by
    unfold vsX
    rw [fhU_id (t := 12) (fun _ => rfl), fhI_id rfl, fhU_id (fun _ => rfl)]
  unfold f_X11_answer
  refine wq_for (R := fun k x => ∃ t h gg, x = (iI (fiQ f k), iI (laQ f k), iI (ofQ f k), lI (toQ f k), iI (moQ f k), iI (leQ f k), nI k, vsX (fhU σ 12 t) h gg)) 0 W.g (Nat.zero_le _) ?_ ?_ ⟨σ.1 12, σ.1 10 2, σ.1 14, by rw [← id0]; rfl⟩
  · rintro k x - hk ⟨t, h, gg, rfl⟩
    (try dsimp only)
    unfold f_X11_answer_19
    have o := fun (a j : Nat) (h1 : a ≠ 10) (h2 : a ≠ 12) (h3 : a ≠ 14) => vsX_p (σ := σ) (t := t) (h := h) (gg := gg) (a := a) (j := j) h1 h2 h3
    have hrw1 : rwF W (vsX (fhU σ 12 t) h gg) := ⟨by rw [o 39 9 (by decide) (by decide) (by decide)]; exact hrw.1, fun r i a b => by rw [o 43 _ (by decide) (by decide) (by decide)]; exact hrw.2.1 r i a b, fun r i a b => by rw [o 45 _ (by decide) (by decide) (by decide)]; exact hrw.2.2 r i a b⟩
    have hg1 : gmF W L w0 rd (vsX (fhU σ 12 t) h gg) := ⟨by rw [o 56 _ (by decide) (by decide) (by decide)]; exact hg.1, by rw [o 56 _ (by decide) (by decide) (by decide)]; exact hg.2.1, by rw [o 56 _ (by decide) (by decide) (by decide)]; exact hg.2.2.1, fun j hj => by rw [o 73 _ (by decide) (by decide) (by decide)]; exact hg.2.2.2.1 j hj, fun r hr => by rw [o 75 _ (by decide) (by decide) (by decide)]; exact hg.2.2.2.2 r hr⟩
    rw [hrw1.1, if_neg (nI_ge hk (by omega)), wq_bind]
    refine wq_mono (c_fillG hW hrw1 hg1 (fun i hi => by rw [o 51 _ (by decide) (by decide) (by decide)]; exact h51 i hi) (hw0 (by omega)) hk hr) ?_
    rintro s ⟨t2, rfl, hl⟩
    rw [vsX_12] at hl ⊢
    have hl2 : lvF true W.g (lfQ W (rl W.N L) w0 rd k) (lkQ W (rl W.N L) w0 k) (fhU σ 12 t2) := by
      have e : ∀ k, fcG (fhU σ 12 t2) 11 k = fcG (vsX (fhU σ 12 t2) h gg) 11 k := fun k => by
        unfold fcG
        show _ = bif _ then (vsX (fhU σ 12 t2) h gg).1 12 (fhix k) else 0
        unfold vsX
        rw [fhU_o (show 12 ≠ 14 by decide), fhI_o (show 12 ≠ 10 by decide)]
      exact ⟨fun i hi => by rw [e]; exact hl.1 i hi, fun b n hb hn => by rw [e]; exact hl.2 b n hb hn⟩
    have e61 : (vsX (fhU σ 12 t2) h gg).1 6 1 = nI c.length := by
      rw [vsX_p (by decide) (by decide) (by decide)]
      exact s1
    rw [e61, wq_bind]
    have hv := c_value (K := 6) hg5 (by decide) hl2 (hf k hk) (a := 0) (c := c) (fun j x hx => by rw [Nat.zero_add, cg7 (by have := (List.getElem?_eq_some_iff.mp hx).1; omega), fhU_o (by decide)]; exact (s3 j x hx).2.2) (by omega) h gg
    rw [Nat.zero_add] at hv
    refine wq_mono hv ?_
    rintro ⟨v, s⟩ ⟨h1, hb, g2, h3⟩
    have h1 : v = iI (f k) := h1
    have h3 : s = vsX (fhU σ 12 t2) (nI 0) g2 := h3
    subst h1
    subst h3
    (try dsimp only)
    obtain ⟨b1, b2, b3, b4, b5, b6⟩ := q_bnd (f := f) (k := k) (fun i hi => hfb i (by omega))
    have hb' := hb
    unfold bnd at hb'
    have ez : (iI (f k) = 0) = (f k = 0) := by rw [iI_0, iI_eqP (by omega) (by omega) (by omega) (by omega)]
    have tail : ∀ (v2 v3 v4 : Int32), wq (f_X11_answer_88 (nI (26 + q)) v2 v3 v4 (lI (toQ f k)) (iI (moQ f k)) (iI (leQ f k)) (nI k) (iI (f k)) (vsX (fhU σ 12 t2) (nI 0) g2)) (fun y => y = Sum.inl (v2, v3, v4, lI (toQ f (k + 1)), iI (moQ f (k + 1)), iI (leQ f (k + 1)), nI (k + 1), vsX (fhU σ 12 t2) (nI 0) g2)) := by
      intro v2 v3 v4
      unfold f_X11_answer_88 f_X11_answer_113 f_X11_answer_132
      rw [iI_l (by omega) (by omega), lI_add, nI_1, wq_some]
      have em : (if nI k = 0 then iI (f k) else f_J9_max_7cf53 (iI (moQ f k)) (iI (f k)) (vsX (fhU σ 12 t2) (nI 0) g2)) = iI (moQ f (k + 1)) := by
        show _ = iI (if k = 0 then f k else _)
        by_cases c : k = 0
        · rw [if_pos (by rw [c]; rfl), if_pos c]
        · rw [if_neg (by rw [nI_eq0 (by omega)]; exact c), if_neg c, iI_max b5 hb]
      have el : (if nI k = 0 then iI (f k) else f_J9_min_7cf53 (iI (leQ f k)) (iI (f k)) (vsX (fhU σ 12 t2) (nI 0) g2)) = iI (leQ f (k + 1)) := by
        show _ = iI (if k = 0 then f k else _)
        by_cases c : k = 0
        · rw [if_pos (by rw [c]; rfl), if_pos c]
        · rw [if_neg (by rw [nI_eq0 (by omega)]; exact c), if_neg c, iI_min b6 hb]
      rw [em, el]
      rfl
    by_cases z : f k = 0
    · rw [if_pos (by rw [ez]; exact z)]
      refine wq_mono (tail _ _ _) ?_
      rintro y rfl
      rw [fhK_l]
      refine ⟨t2, nI 0, g2, ?_⟩
      rw [show fiQ f (k + 1) = fiQ f k from if_pos z, show laQ f (k + 1) = laQ f k from if_pos z, show ofQ f (k + 1) = ofQ f k from if_pos z]
    · rw [if_neg (by rw [ez]; exact z)]
      unfold f_X11_answer_81
      refine wq_mono (tail _ _ _) ?_
      rintro y rfl
      rw [fhK_l]
      refine ⟨t2, nI 0, g2, ?_⟩
      rw [show fiQ f (k + 1) = (if fiQ f k = -1 then ((k : Nat) : Int) else fiQ f k) from if_neg z, show laQ f (k + 1) = ((k : Nat) : Int) from if_neg z, show ofQ f (k + 1) = ofQ f k + 1 from if_neg z, iI_n (show k < 2 ^ 31 by omega), iI_1, iI_add]
      have e1 : (iI (fiQ f k) = -1) = (fiQ f k = -1) := by
        rw [show (-1 : Int32) = iI (-1) from by decide, iI_eqP (by omega) (by omega) (by omega) (by omega)]
      by_cases y : fiQ f k = -1
      · rw [if_pos (by rw [← iI_1, e1]; exact y), if_pos y, iI_n (show k < 2 ^ 31 by omega)]
      · rw [if_neg (by rw [← iI_1, e1]; exact y), if_neg y]
  · rintro x ⟨t, h, gg, rfl⟩
    (try dsimp only)
    unfold f_X11_answer_19
    obtain ⟨b1, b2, b3, b4, b5, b6⟩ := q_bnd (f := f) (k := W.g) hfb
    unfold bnd at b5 b6
    rw [vsX_p (by decide) (by decide) (by decide), hrw.1, if_pos (nI_le (Nat.le_refl _) (by omega))]
    have hq2 : q = 0 ∨ q = 1 ∨ q = 2 ∨ q = 3 ∨ q = 4 ∨ q = 5 := by omega
    unfold ansQ
    rcases hq2 with rfl | rfl | rfl | rfl | rfl | rfl <;> (repeat (first | rw [if_pos (by decide)] | rw [if_neg (by decide)])) <;> rw [wq_some, fhK_r] <;> refine ⟨?_, t, h, gg, rfl⟩ <;> first | rfl | exact iI_l (by omega) (by omega)
end
