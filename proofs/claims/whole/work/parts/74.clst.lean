/-! THE CLASS'S PIECES -/
/-- a word's letters, packed -/
def p5 : List Nat → Nat
  | [] => 0
  | c :: r => (c - 96) + 32 * p5 r
theorem p5_inj : ∀ {a b : List Nat}, (∀ c ∈ a, tS c = 1) → (∀ c ∈ b, tS c = 1) → p5 a = p5 b → a = b := by
  intro a
  induction a with
  | nil =>
    intro b _ hb h
    cases b with
    | nil => rfl
    | cons c r =>
      have := tS_let (hb c List.mem_cons_self)
      have h2 : 0 = (c - 96) + 32 * p5 r := h
      omega
  | cons d q ih =>
    intro b ha hb h
    have hd := tS_let (ha d List.mem_cons_self)
    cases b with
    | nil =>
      have h2 : (d - 96) + 32 * p5 q = 0 := h
      omega
    | cons c r =>
      have hc := tS_let (hb c List.mem_cons_self)
      have h2 : (d - 96) + 32 * p5 q = (c - 96) + 32 * p5 r := h
      have e1 : d = c := by omega
      have e2 : p5 q = p5 r := by omega
      rw [e1, ih (fun x hx => ha x (List.mem_cons_of_mem _ hx)) (fun x hx => hb x (List.mem_cons_of_mem _ hx)) e2]
theorem p5_s (l : List Nat) (c : Nat) : p5 (l ++ [c]) = p5 l + (c - 96) * 2 ^ (5 * l.length) := by
  induction l with
  | nil =>
    show (c - 96) + 32 * 0 = 0 + (c - 96) * 2 ^ 0
    omega
  | cons d q ih =>
    show (d - 96) + 32 * p5 (q ++ [c]) = (d - 96) + 32 * p5 q + (c - 96) * 2 ^ (5 * (q.length + 1))
    rw [ih, show 5 * (q.length + 1) = 5 * q.length + 5 by omega, Nat.pow_add, Nat.mul_add]
    have : 32 * ((c - 96) * 2 ^ (5 * q.length)) = (c - 96) * (2 ^ (5 * q.length) * 2 ^ 5) := by
      rw [show (2 : Nat) ^ 5 = 32 from rfl, ← Nat.mul_assoc (c - 96), Nat.mul_comm 32]
    omega
theorem p5_lt {l : List Nat} (h : ∀ c ∈ l, tS c = 1) : p5 l < 2 ^ (5 * l.length) := by
  induction l with
  | nil => show 0 < 1; decide
  | cons c r ih =>
    have hc := tS_let (h c List.mem_cons_self)
    have h1 := ih (fun x hx => h x (List.mem_cons_of_mem _ hx))
    show (c - 96) + 32 * p5 r < 2 ^ (5 * (r.length + 1))
    rw [show 5 * (r.length + 1) = 5 * r.length + 5 by omega, Nat.pow_add, show (2 : Nat) ^ 5 = 32 from rfl]
    omega
theorem p5_pos {l : List Nat} (h : ∀ c ∈ l, tS c = 1) (h0 : l ≠ []) : 0 < p5 l := by
  cases l with
  | nil => exact absurd rfl h0
  | cons c r =>
    have hc := tS_let (h c List.mem_cons_self)
    show 0 < (c - 96) + 32 * p5 r
    omega
theorem p5_31 {l : List Nat} (h : ∀ c ∈ l, tS c = 1) (h6 : l.length ≤ 6) : p5 l < 2 ^ 30 := by
  have h1 := p5_lt h
  have h2 : (2 : Nat) ^ (5 * l.length) ≤ 2 ^ 30 := Nat.pow_le_pow_right (by decide) (by omega)
  omega
theorem or_add {a x j : Nat} (h : a < 2 ^ j) : a ||| (x * 2 ^ j) = a + x * 2 ^ j := by
  rw [Nat.or_comm, Nat.mul_comm, ← Nat.two_pow_add_eq_or_of_lt h, Nat.add_comm]
/-- the words as WORDS has them -/
def wws : List (List Nat) := [[109, 97, 114, 107, 115], [103, 117, 101, 115, 116], [119, 101, 97, 114, 115], [98, 108, 105, 110, 100], [116, 111], [114, 117, 108, 101], [102, 97, 99, 116], [115, 108, 105, 112], [115, 117, 109], [116, 111, 112], [108, 111, 119], [107, 105, 110, 100, 115], [99, 111, 117, 110, 116], [110, 117, 109, 98, 101, 114], [109, 97, 114, 107], [114, 111, 119, 115], [107, 110, 111, 119, 115], [114, 111, 117, 110, 100], [115, 101, 101, 115], [99, 111, 117, 108, 100], [111, 114], [97, 110, 100], [110, 111, 116], [97, 108, 108], [109, 105, 110], [109, 97, 120], [102, 105, 114, 115, 116], [108, 97, 115, 116], [111, 102, 116, 101, 110], [116, 111, 116, 97, 108], [109, 111, 115, 116], [108, 101, 97, 115, 116]]
def owl : List (List Nat) → Nat → List Nat → Nat
  | [], _, _ => 99
  | w :: ws, i, l => if w = l then i else owl ws (i + 1) l
def ow (l : List Nat) : Nat := owl wws 0 l
def wflat : List (List Nat) → List Int32
  | [] => []
  | w :: ws => w.map nI ++ 32 :: wflat ws
theorem wws_flat : wflat wws = fhwby := by decide +kernel
theorem fwN_word {p : Int32} {r : List Int32} {n : Int32} : ∀ (w q : List Nat), (∀ c ∈ q ++ w, tS c = 1) → (q ++ w).length ≤ 6 → fwN p (w.map nI ++ 32 :: r) n (nI (p5 q)) (nI (5 * q.length)) = if nI (p5 (q ++ w)) = p then n else fwN p r (n + 1) 0 0 := by
  intro w
  induction w with
  | nil =>
    intro q _ _
    rw [List.append_nil]
    show (if (32 : Int32) = 32 then _ else _) = _
    rw [if_pos rfl]
  | cons c w ih =>
    intro q hq hl
    have hc : tS c = 1 := hq c (List.mem_append_right _ List.mem_cons_self)
    have hc2 := tS_let hc
    have hql : ∀ x ∈ q, tS x = 1 := fun x hx => hq x (List.mem_append_left _ hx)
    have hlen : q.length ≤ 5 := by
      rw [List.length_append, List.length_cons] at hl
      omega
    have hp := p5_lt hql
    have hp2 : (2 : Nat) ^ (5 * q.length) ≤ 2 ^ 25 := Nat.pow_le_pow_right (by decide) (by omega)
    show (if nI c = 32 then _ else fwN p (w.map nI ++ 32 :: r) n (nI (p5 q) ||| (((nI c - 97) + 1) <<< (nI (5 * q.length) &&& 31))) (nI (5 * q.length) + 5)) = _
    rw [if_neg (fun q => by rw [show (32 : Int32) = nI 32 from rfl, nI_eq (by omega) (by decide)] at q; omega)]
    have e1 : (nI c - 97) + 1 = nI (c - 96) := by
      rw [show (97 : Int32) = nI 97 from rfl, pk_sub (by omega), nI_1, show c - 97 + 1 = c - 96 by omega]
    have hb : (c - 96) * 2 ^ (5 * q.length) ≤ 26 * 2 ^ 25 := Nat.mul_le_mul (by omega) hp2
    rw [e1, ph_shl (by omega) (by omega), ph_or, or_add hp, ← p5_s, show (5 : Int32) = nI 5 from rfl, nI_add, show 5 * q.length + 5 = 5 * (q ++ [c]).length by rw [List.length_append, List.length_singleton]; omega]
    have := ih (q ++ [c]) (by rw [List.append_assoc]; exact hq) (by rw [List.append_assoc]; exact hl)
    rw [this, List.append_assoc]
    rfl
theorem fwN_flat {l : List Nat} (hl : ∀ c ∈ l, tS c = 1) (h6 : l.length ≤ 6) : ∀ (ws : List (List Nat)) (i : Nat), (∀ w ∈ ws, (∀ c ∈ w, tS c = 1) ∧ w.length ≤ 6) → fwN (nI (p5 l)) (wflat ws) (nI i) 0 0 = nI (owl ws i l) := by
  intro ws
  induction ws with
  | nil => intro i _; rfl
  | cons w ws ih =>
    intro i h
    obtain ⟨h1, h2⟩ := h w List.mem_cons_self
    have e := fwN_word (p := nI (p5 l)) (r := wflat ws) (n := nI i) w [] h1 h2
    show fwN (nI (p5 l)) (w.map nI ++ 32 :: wflat ws) (nI i) 0 0 = nI (if w = l then i else owl ws (i + 1) l)
    rw [show (fwN (nI (p5 l)) (w.map nI ++ 32 :: wflat ws) (nI i) 0 0) = _ from e, List.nil_append, nI_1, ih (i + 1) (fun x hx => h x (List.mem_cons_of_mem _ hx))]
    have a1 := p5_31 h1 h2
    have a2 := p5_31 hl h6
    by_cases q : w = l
    · rw [if_pos q, if_pos (by rw [q])]
    · rw [if_neg q, if_neg (fun z => q (p5_inj h1 hl ((nI_eq (by omega) (by omega)).mp z)))]
theorem wws_ok : ∀ w ∈ wws, (∀ c ∈ w, tS c = 1) ∧ w.length ≤ 6 := by decide
theorem c_wno {l : List Nat} (hl : ∀ c ∈ l, tS c = 1) (h6 : l.length ≤ 6) (σ : fhM) : f_X8_wordNumber (nI (p5 l)) σ = nI (ow l) := by
  unfold f_X8_wordNumber
  rw [← wws_flat]
  exact fwN_flat hl h6 wws 0 wws_ok
theorem owl_out {l : List Nat} : ∀ (ws : List (List Nat)) (i : Nat), l ∉ ws → owl ws i l = 99 := by
  intro ws
  induction ws with
  | nil => intro i _; rfl
  | cons w ws ih =>
    intro i h
    show (if w = l then i else owl ws (i + 1) l) = 99
    rw [if_neg (fun q => h (by rw [q]; exact List.mem_cons_self))]
    exact ih (i + 1) (fun q => h (List.mem_cons_of_mem _ q))
theorem owl_in {l : List Nat} : ∀ (ws : List (List Nat)) (i : Nat), l ∈ ws → ∃ j, j < ws.length ∧ ws[j]? = some l ∧ owl ws i l = i + j := by
  intro ws
  induction ws with
  | nil => intro i h; cases h
  | cons w ws ih =>
    intro i h
    show ∃ j, j < (w :: ws).length ∧ _ ∧ (if w = l then i else owl ws (i + 1) l) = i + j
    by_cases q : w = l
    · exact ⟨0, by rw [List.length_cons]; omega, by rw [q]; rfl, if_pos q⟩
    · rcases List.mem_cons.mp h with e | e
      · exact absurd e.symm q
      · obtain ⟨j, h1, h2, h3⟩ := ih (i + 1) e
        exact ⟨j + 1, by rw [List.length_cons]; omega, h2, by rw [if_neg q, h3]; omega⟩
theorem wws_nd : ∀ i, i < 32 → ∀ j, j < 32 → wws[i]? = wws[j]? → i = j := by decide
/-- the number of a word that is there -/
theorem ow_eq {l : List Nat} {j : Nat} (hj : j < 32) : ow l = j ↔ wws[j]? = some l := by
  unfold ow
  by_cases h : l ∈ wws
  · obtain ⟨i, h1, h2, h3⟩ := owl_in wws 0 h
    have hl : wws.length = 32 := rfl
    rw [h3, Nat.zero_add]
    constructor
    · intro e; rw [← e]; exact h2
    · intro e; exact wws_nd i (by omega) j hj (by rw [h2, e])
  · rw [owl_out wws 0 h]
    constructor
    · intro e; omega
    · intro e; exact absurd (List.mem_of_getElem? e) h
theorem ow_99 {l : List Nat} : ow l < 32 ∨ ow l = 99 := by
  unfold ow
  by_cases h : l ∈ wws
  · obtain ⟨i, h1, h2, h3⟩ := owl_in wws 0 h
    have hl : wws.length = 32 := rfl
    rw [h3]; omega
  · exact Or.inr (owl_out wws 0 h)
theorem ow_long {l : List Nat} (h : 6 < l.length) : ow l = 99 := by
  unfold ow
  refine owl_out wws 0 (fun q => ?_)
  have := (wws_ok l q).2
  omega
theorem c_wno0 (σ : fhM) : f_X8_wordNumber 0 σ = nI 99 := by
  unfold f_X8_wordNumber
  decide +kernel
theorem oww_ow {l : List Nat} : l ∈ oww ↔ ow l < 26 := by
  have e : oww = wws.take 26 := by decide
  rw [e]
  constructor
  · intro h
    obtain ⟨j, hj⟩ := List.getElem?_of_mem h
    rw [List.getElem?_take] at hj
    split at hj
    · have : ow l = j := (ow_eq (by omega)).mpr hj
      omega
    · cases hj
  · intro h
    have := (ow_eq (l := l) (j := ow l) (by omega)).mp rfl
    have h2 : (wws.take 26)[ow l]? = some l := by rw [List.getElem?_take, if_pos h]; exact this
    exact List.mem_of_getElem? h2
/-! its sorts, letters, numbers -/
def cX (T : tT) (σ : fhM) : Prop := ∀ i, i < T.2 → σ.1 2 i = nI (T.1 i)
theorem c_get {T : tT} (hT : tOK T) {σ : fhM} (h : cX T σ) {i : Nat} (hi : i < T.2) : fcG σ 1 (nI i) = nI (T.1 i) := by
  have := hT.1
  rw [cg1 (by omega)]
  exact h i hi
theorem c_sort {c : Nat} (hc : c < 256) (σ : fhM) : f_X8_sortOf (nI c) σ = nI (tS c) := by
  have z : f_X8_sortOf_14 (nI c) σ = nI (if 48 ≤ c ∧ c ≤ 57 then 2 else 3) := by
    unfold f_X8_sortOf_14
    rw [show (48 : Int32) = nI 48 from rfl, show (57 : Int32) = nI 57 from rfl]
    by_cases h1 : c < 48
    · rw [if_pos (nI_lt h1 (by decide)), if_neg (by omega)]; rfl
    · rw [if_neg (nI_nlt (by omega) (by omega))]
      by_cases h2 : 57 < c
      · rw [if_pos (nI_lt h2 (by omega)), if_neg (by omega)]; rfl
      · rw [if_neg (nI_nlt (by omega) (by decide)), if_pos (by omega)]; rfl
  unfold f_X8_sortOf tS
  rw [z, show (97 : Int32) = nI 97 from rfl, show (122 : Int32) = nI 122 from rfl]
  by_cases h1 : c < 97
  · rw [if_pos (nI_lt h1 (by decide)), if_neg (show ¬ (97 ≤ c ∧ c ≤ 122) by omega)]
  · rw [if_neg (nI_nlt (by omega) (by omega))]
    by_cases h2 : 122 < c
    · rw [if_pos (nI_lt h2 (by omega)), if_neg (show ¬ (97 ≤ c ∧ c ≤ 122) by omega)]
    · rw [if_neg (nI_nlt (by omega) (by decide)), if_pos (show 97 ≤ c ∧ c ≤ 122 by omega)]
      rfl
theorem c_pack {T : tT} (hT : tOK T) {σ : fhM} (h : cX T σ) {f t : Nat} (hft : f ≤ t) (ht : t ≤ T.2) (hs : ∀ j, f ≤ j → j < t → tS (T.1 j) = 1) : f_X8_packLetters 1 (nI f) (nI t) σ = some (nI (if t - f ≤ 6 then p5 (bs T f (t - f)) else 0)) := by
  have hT2 := hT.1
  unfold f_X8_packLetters
  by_cases h6 : t - f ≤ 6
  · rw [if_pos h6]
    have hq : wq (fhlp (fun x => f_X8_packLetters_5 1 (nI f) (nI t) x.1 x.2 σ) ((0 : Int32), nI f)) (fun r => r = nI (p5 (bs T f (t - f)))) := by
      refine wq_for (R := fun i x => x.2 = nI i ∧ x.1 = nI (p5 (bs T f (i - f)))) f t hft ?_ ?_ ⟨rfl, by rw [Nat.sub_self]; rfl⟩
      · rintro i ⟨a, k⟩ h1 h2 ⟨e1, e2⟩
        dsimp only at e1 e2 ⊢
        rw [e1, e2]
        unfold f_X8_packLetters_5
        have hsi := hs i h1 h2
        have hc2 := tS_let hsi
        have hbl : ∀ c ∈ bs T f (i - f), tS c = 1 := bs_let (fun j hj => hs _ (by omega) (by omega))
        have hp := p5_lt hbl
        rw [bs_len] at hp
        have hp2 : (2 : Nat) ^ (5 * (i - f)) ≤ 2 ^ 25 := Nat.pow_le_pow_right (by decide) (by omega)
        have hb : (T.1 i - 96) * 2 ^ (5 * (i - f)) ≤ 26 * 2 ^ 25 := Nat.mul_le_mul (by omega) hp2
        have e3 : (nI (T.1 i) - 97) + 1 = nI (T.1 i - 96) := by
          rw [show (97 : Int32) = nI 97 from rfl, pk_sub (by omega), nI_1, show T.1 i - 97 + 1 = T.1 i - 96 by omega]
        rw [if_neg (nI_ge h2 (by omega)), pk_sub hft, show (6 : Int32) = nI 6 from rfl, if_neg (nI_nlt h6 (by omega)), wq_let, wq_some, fhK_l, c_get hT h (by omega), e3, pk_sub h1, show (5 : Int32) = nI 5 from rfl, pk_mul, ph_shl (by omega) (by omega), ph_or, or_add hp, nI_1]
        refine ⟨rfl, ?_⟩
        show nI _ = nI _
        rw [show i + 1 - f = (i - f) + 1 by omega, bs_s, p5_s, bs_len, show f + (i - f) = i by omega]
      · rintro ⟨a, k⟩ ⟨e1, e2⟩
        dsimp only at e1 e2 ⊢
        rw [e1, e2]
        unfold f_X8_packLetters_5
        rw [if_pos (Int32.le_refl _), wq_some, fhK_r]
    obtain ⟨r, e1, e2⟩ := hq
    rw [e1, e2]
  · rw [if_neg h6]
    refine fhlp_e ?_
    dsimp only
    unfold f_X8_packLetters_5
    rw [if_neg (nI_ge (by omega) (by omega)), pk_sub hft, show (6 : Int32) = nI 6 from rfl, if_pos (nI_lt (by omega) (by omega))]
    rfl
theorem c_num {T : tT} (hT : tOK T) {σ : fhM} (h : cX T σ) {f t : Nat} (hft : f ≤ t) (ht : t ≤ T.2) (hs : ∀ j, f ≤ j → j < t → tS (T.1 j) = 2) : f_X8_numberOf 1 (nI f) (nI t) σ = some (nI (nmv T f (min (t - f) 4))) := by
  have hT2 := hT.1
  unfold f_X8_numberOf
  have hq : wq (fhlp (fun x => f_X8_numberOf_5 1 (nI f) (nI t) x.1 x.2 σ) ((0 : Int32), nI f)) (fun r => r = nI (nmv T f (min (t - f) 4))) := by
    refine wq_for (R := fun i x => x.2 = nI i ∧ x.1 = nI (nmv T f (i - f)) ∧ i - f ≤ 4) f t hft ?_ ?_ ⟨rfl, by rw [Nat.sub_self]; rfl, by omega⟩
    · rintro i ⟨a, k⟩ h1 h2 ⟨e1, e2, e4⟩
      dsimp only at e1 e2 ⊢
      rw [e1, e2]
      unfold f_X8_numberOf_5
      have hsi := hs i h1 h2
      have hc2 := tS_dig hsi
      rw [if_neg (nI_ge h2 (by omega)), pk_sub h1, show (4 : Int32) = nI 4 from rfl]
      by_cases h4 : 4 ≤ i - f
      · rw [if_pos (nI_le h4 (by omega)), wq_some, fhK_r, show min (t - f) 4 = i - f by omega]
      · rw [if_neg (nI_ge (by omega) (by decide)), wq_let, wq_some, fhK_l, c_get hT h (by omega), show (10 : Int32) = nI 10 from rfl, pk_mul, nI_add, show (48 : Int32) = nI 48 from rfl, pk_sub (by omega), nI_1]
        refine ⟨rfl, ?_, by omega⟩
        show nI _ = nI _
        congr 1
        rw [show i + 1 - f = (i - f) + 1 by omega]
        show _ = 10 * nmv T f (i - f) + (T.1 (f + (i - f)) - 48)
        rw [show f + (i - f) = i by omega]
        omega
    · rintro ⟨a, k⟩ ⟨e1, e2, e4⟩
      dsimp only at e1 e2 ⊢
      rw [e1, e2]
      unfold f_X8_numberOf_5
      rw [if_pos (Int32.le_refl _), wq_some, fhK_r, show min (t - f) 4 = t - f by omega]
  obtain ⟨r, e1, e2⟩ := hq
  rw [e1, e2]
