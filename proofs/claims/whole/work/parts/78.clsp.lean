/-! steps, names, and the class's parser -/
def sEnc (c : Nat × Nat) : Nat := (if c.1 = 15 then 0 else c.1) + 16 * c.2
/-- the steps of a Code at place K -/
def cS (K : Nat) (out : gC) (σ : fhM) : Prop := σ.1 K 1 = nI out.length ∧ out.length ≤ 1600 ∧ ∀ i c, out[i]? = some c → c.1 ≤ 15 ∧ c.2 < 100000 ∧ σ.1 (K + 2) i = nI (sEnc c)
theorem fr_P {D : Nat → Nat → Prop} {σ σ' : fhM} {t : Nat} {k v : Int32} (h : fr D σ σ') (hd : ∀ j, D (t + 1) j) : fr D σ (fcP σ' t k v) := by
  refine ⟨h.1, fun a j n => ?_⟩
  have : (fcP σ' t k v).1 a j = σ'.1 a j := by
    unfold fcP
    dsimp only
    by_cases q : a = t + 1
    · exact absurd (q ▸ hd j) n
    · have e : Nat.beq a (t + 1) = false := by
        cases e : Nat.beq a (t + 1) with
        | false => rfl
        | true => exact absurd (Nat.eq_of_beq_eq_true e) q
      rw [e]
      rfl
  rw [this]
  exact h.2 a j n
def cDk (K t j : Nat) : Prop := t = K + 2 ∨ (t = K ∧ j = 1)
theorem c_addN (K : Nat) (a b : Int32) (σ : fhM) : fr (cDk K) σ (f_X3_add K a b σ) := by
  unfold f_X3_add
  exact fr_I (fr_P fr_rf (fun j => Or.inl rfl)) (Or.inr ⟨rfl, rfl⟩)
theorem fcL_K {K : Nat} (h : fhiK K = true) : fcL (K + 1) = 1600 := by
  unfold fhiK at h
  rw [Bool.or_eq_true, Bool.or_eq_true] at h
  rcases h with h | h | h <;> rw [Nat.eq_of_beq_eq_true h] <;> rfl
theorem c_min (a b : Nat) (ha : a < 2 ^ 31) (hb : b < 2 ^ 31) (σ : fhM) : f_J9_min_7cf53 (nI a) (nI b) σ = nI (min a b) := by
  unfold f_J9_min_7cf53
  by_cases q : b < a
  · rw [if_pos (nI_lt q ha), show min a b = b by omega]
  · rw [if_neg (nI_nlt (by omega) (by omega)), show min a b = a by omega]
theorem c_max (a b : Nat) (ha : a < 2 ^ 31) (hb : b < 2 ^ 31) (σ : fhM) : f_J9_max_7cf53 (nI a) (nI b) σ = nI (max a b) := by
  unfold f_J9_max_7cf53
  by_cases q : a < b
  · rw [if_pos (nI_lt q hb), show max a b = b by omega]
  · rw [if_neg (nI_nlt (by omega) (by omega)), show max a b = a by omega]
theorem c_add {K : Nat} (hK : fhiK K = true) {out : gC} {σ : fhM} (h : cS K out σ) (hl : out.length < 1600) (c : Nat × Nat) (h1 : c.1 ≤ 15) (h2 : c.2 < 100000) : cS K (out ++ [c]) (f_X3_add K (nI (if c.1 = 15 then 0 else c.1)) (nI c.2) σ) := by
  obtain ⟨s1, s2, s3⟩ := h
  unfold f_X3_add
  have e1 : nI (if c.1 = 15 then 0 else c.1) ||| (nI c.2 <<< ((4 : Int32) &&& 31)) = nI (sEnc c) := by
    have hb : (if c.1 = 15 then 0 else c.1) < 2 ^ 4 := by split <;> omega
    have := ph_shl (a := c.2) (l := 4) (by decide) (by omega)
    rw [show (nI c.2 <<< ((4 : Int32) &&& 31)) = nI (c.2 * 2 ^ 4) from this, ph_or, or_add hb]
    unfold sEnc
    rw [show c.2 * 2 ^ 4 = 16 * c.2 by omega]
  rw [e1, s1, fcP_at (fcL_K hK) hl (by omega)]
  have e2 : (fhI σ (K + 1 + 1) out.length (nI (sEnc c))).1 K 1 + 1 = nI (out.length + 1) := by
    rw [fhI_o (by omega), s1, nI_1]
  rw [e2, show (1600 : Int32) = nI 1600 from rfl, c_min _ _ (by omega) (by decide), show min (out.length + 1) 1600 = out.length + 1 by omega]
  refine ⟨?_, ?_, fun i d hi => ?_⟩
  · rw [fhI_e, List.length_append, List.length_singleton]
  · rw [List.length_append, List.length_singleton]; omega
  · rw [fhI_o (show K + 2 ≠ K by omega)]
    rcases Nat.lt_or_ge i out.length with q | q
    · rw [List.getElem?_append_left q] at hi
      obtain ⟨a1, a2, a3⟩ := s3 i d hi
      refine ⟨a1, a2, ?_⟩
      rw [show K + 2 = K + 1 + 1 from rfl, fhI_s (by omega)]
      exact a3
    · rw [List.getElem?_append_right q] at hi
      have e : i - out.length = 0 := by
        cases z : i - out.length with
        | zero => rfl
        | succ n => rw [z] at hi; cases hi
      rw [e] at hi
      cases hi
      refine ⟨h1, h2, ?_⟩
      rw [show K + 2 = K + 1 + 1 from rfl, show i = out.length by omega, fhI_e]
theorem cS_fr {K : Nat} {out : gC} {σ σ' : fhM} (h : cS K out σ) (h1 : σ'.1 K 1 = σ.1 K 1) (h2 : ∀ i, σ'.1 (K + 2) i = σ.1 (K + 2) i) : cS K out σ' := by
  obtain ⟨s1, s2, s3⟩ := h
  exact ⟨by rw [h1]; exact s1, s2, fun i c hi => by rw [h2]; exact s3 i c hi⟩
/-- the names of the guests told so far, at a Parlour P -/
def cN (P : Nat) (nl : List (List Nat)) (σ : fhM) : Prop := σ.1 P 10 = nI nl.length ∧ nl.length ≤ 5 ∧ ∀ g l, nl[g]? = some l → (∀ c ∈ l, tS c = 1) ∧ l.length ≤ 6 ∧ l ≠ [] ∧ σ.1 (P + 11) g = nI (p5 l)
theorem fcL_P {P : Nat} (h : fhiP P = true) : fcL (P + 10) = 5 := by
  unfold fhiP at h
  rw [Bool.or_eq_true] at h
  rcases h with h | h <;> rw [Nat.eq_of_beq_eq_true h] <;> rfl
/-- looked for in any state it ends -/
theorem c_gnN (P : Nat) (x : Int32) (σ : fhM) : ∃ v, f_X7_guestNamed P x σ = some v := by
  unfold f_X7_guestNamed
  have h := wq_loop (f := fun v : Int32 => f_X7_guestNamed_2 P x v σ) (P := fun _ => True) (Inv := fun v : Int32 => True) (μ := fun v : Int32 => ((σ.1 P 10).toInt - v.toInt).toNat)
    (by
      intro v _
      unfold f_X7_guestNamed_2
      by_cases q : σ.1 P 10 ≤ v
      · rw [if_pos q, wq_some, fhK_r]; trivial
      · rw [if_neg q]
        split
        · rw [wq_some, fhK_r]; trivial
        · rw [wq_some, fhK_l]
          refine ⟨trivial, ?_⟩
          have q1 : v.toInt < (σ.1 P 10).toInt := by rw [Int32.le_iff_toInt_le] at q; omega
          have q2 := (σ.1 P 10).toInt_lt
          have q3 := v.le_toInt
          have e : (v + 1).toInt = v.toInt + 1 := by
            rw [Int32.toInt_add, show (1 : Int32).toInt = 1 from rfl, Int.bmod_eq_of_le (by omega) (by omega)]
          show ((σ.1 P 10).toInt - (v + 1).toInt).toNat < ((σ.1 P 10).toInt - v.toInt).toNat
          rw [e]
          omega)
    (x := (0 : Int32)) trivial
  obtain ⟨v, e, _⟩ := h
  exact ⟨v, e⟩
def nixI (o : Option Nat) : Int32 := match o with
  | some i => nI i
  | none => -1
theorem nix_at {l : List Nat} : ∀ (ns : List (List Nat)) (i g : Nat), (∀ j, j < g → ns[j]? ≠ some l) → ns[g]? = some l → nix ns i l = some (i + g) := by
  intro ns
  induction ns with
  | nil => intro i g _ h; cases h
  | cons n ns ih =>
    intro i g hj h
    show (if n = l then some i else nix ns (i + 1) l) = _
    cases g with
    | zero =>
      cases h
      rw [if_pos rfl]
      rfl
    | succ g =>
      rw [if_neg (fun q => hj 0 (by omega) (by rw [q]; rfl)), ih (i + 1) g (fun j hj2 => hj (j + 1) (by omega)) h]
      congr 1
      omega
theorem nix_no {l : List Nat} : ∀ (ns : List (List Nat)) (i : Nat), (∀ j, j < ns.length → ns[j]? ≠ some l) → nix ns i l = none := by
  intro ns
  induction ns with
  | nil => intro i _; rfl
  | cons n ns ih =>
    intro i hj
    show (if n = l then some i else nix ns (i + 1) l) = _
    rw [if_neg (fun q => hj 0 (by rw [List.length_cons]; omega) (by rw [q]; rfl))]
    exact ih (i + 1) (fun j h => hj (j + 1) (by rw [List.length_cons]; omega))
theorem nix_lt {l : List Nat} : ∀ (ns : List (List Nat)) (i g : Nat), nix ns i l = some g → i ≤ g ∧ g < i + ns.length ∧ ns[g - i]? = some l := by
  intro ns
  induction ns with
  | nil => intro i g h; cases h
  | cons n ns ih =>
    intro i g h
    have h : (if n = l then some i else nix ns (i + 1) l) = some g := h
    by_cases q : n = l
    · rw [if_pos q] at h
      cases h
      refine ⟨Nat.le_refl _, by rw [List.length_cons]; omega, ?_⟩
      rw [Nat.sub_self, q]
      rfl
    · rw [if_neg q] at h
      obtain ⟨a, b, c⟩ := ih (i + 1) g h
      refine ⟨by omega, by rw [List.length_cons]; omega, ?_⟩
      rw [show g - i = (g - (i + 1)) + 1 by omega]
      exact c
theorem c_gn {P : Nat} (hP : fhiP P = true) {nl : List (List Nat)} {σ : fhM} (h : cN P nl σ) {l : List Nat} (hl : ∀ c ∈ l, tS c = 1) (h6 : l.length ≤ 6) : f_X7_guestNamed P (nI (p5 l)) σ = some (nixI (nix nl 0 l)) := by
  obtain ⟨n1, n2, n3⟩ := h
  unfold f_X7_guestNamed
  have hq : wq (fhlp (fun x => f_X7_guestNamed_2 P (nI (p5 l)) x σ) (0 : Int32)) (fun r => r = nixI (nix nl 0 l)) := by
    refine wq_for (R := fun i x => x = nI i ∧ ∀ j, j < i → nl[j]? ≠ some l) 0 nl.length (Nat.zero_le _) ?_ ?_ ⟨rfl, fun j hj => by omega⟩
    · rintro i x - h2 ⟨rfl, hj⟩
      unfold f_X7_guestNamed_2
      have hi : nl[i]? = some nl[i] := List.getElem?_eq_getElem h2
      obtain ⟨a1, a2, a3, a4⟩ := n3 i _ hi
      have b1 := p5_31 a1 a2
      have b2 := p5_31 hl h6
      rw [n1, if_neg (nI_ge h2 (by omega)), fcG_at (fcL_P hP) (by omega) (by omega), a4]
      by_cases q : nl[i] = l
      · rw [if_pos (by rw [q]), wq_some, fhK_r, nix_at nl 0 i hj (by rw [hi, q]), Nat.zero_add]
        rfl
      · rw [if_neg (fun z => q (p5_inj a1 hl ((nI_eq (by omega) (by omega)).mp z))), wq_some, fhK_l, nI_1]
        refine ⟨rfl, fun j hj2 => ?_⟩
        rcases Nat.lt_succ_iff_lt_or_eq.mp hj2 with z | z
        · exact hj j z
        · rw [z, hi]
          intro y
          exact q (Option.some.inj y)
    · rintro x ⟨rfl, hj⟩
      unfold f_X7_guestNamed_2
      rw [n1, if_pos (Int32.le_refl _), wq_some, fhK_r, nix_no nl 0 hj]
      rfl
  obtain ⟨r, e1, e2⟩ := hq
  rw [e1, e2]
/-- no name is like 0 -/
theorem c_gn0 {P : Nat} (hP : fhiP P = true) {nl : List (List Nat)} {σ : fhM} (h : cN P nl σ) : f_X7_guestNamed P 0 σ = some (-1) := by
  obtain ⟨n1, n2, n3⟩ := h
  unfold f_X7_guestNamed
  have hq : wq (fhlp (fun x => f_X7_guestNamed_2 P 0 x σ) (0 : Int32)) (fun r => r = (-1 : Int32)) := by
    refine wq_for (R := fun i x => x = nI i) 0 nl.length (Nat.zero_le _) ?_ ?_ rfl
    · rintro i x - h2 rfl
      unfold f_X7_guestNamed_2
      have hi : nl[i]? = some nl[i] := List.getElem?_eq_getElem h2
      obtain ⟨a1, a2, a3, a4⟩ := n3 i _ hi
      have b1 := p5_31 a1 a2
      have b2 := p5_pos a1 a3
      rw [n1, if_neg (nI_ge h2 (by omega)), fcG_at (fcL_P hP) (by omega) (by omega), a4, if_neg (nI_ne0 b2 (by omega)), wq_some, fhK_l, nI_1]
    · rintro x rfl
      unfold f_X7_guestNamed_2
      rw [n1, if_pos (Int32.le_refl _), wq_some, fhK_r]
  obtain ⟨r, e1, e2⟩ := hq
  rw [e1, e2]
theorem cN_fr {P : Nat} {nl : List (List Nat)} {σ σ' : fhM} (h : cN P nl σ) (h1 : σ'.1 P 10 = σ.1 P 10) (h2 : ∀ i, σ'.1 (P + 11) i = σ.1 (P + 11) i) : cN P nl σ' := by
  obtain ⟨n1, n2, n3⟩ := h
  exact ⟨by rw [h1]; exact n1, n2, fun g l hg => by obtain ⟨a, b, c, d⟩ := n3 g l hg; exact ⟨a, b, c, by rw [h2]; exact d⟩⟩
