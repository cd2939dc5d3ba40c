/-! KIT TWO: whole tables of a memory, numbers for simp -/
def fhU (σ : fhM) (t : Nat) (g : Nat → Int32) : fhM := (fun a j => bif Nat.beq a t then g j else σ.1 a j, σ.2)
def fhV (σ : fhM) (t : Nat) (g : Nat → Int64) : fhM := (σ.1, fun a j => bif Nat.beq a t then g j else σ.2.1 a j, σ.2.2)
theorem beq_no {a t : Nat} (h : a ≠ t) : Nat.beq a t = false := by
  cases e : Nat.beq a t with
  | true => exact absurd (Nat.eq_of_beq_eq_true e) h
  | false => rfl
theorem fhU_e {σ : fhM} {t j : Nat} {g : Nat → Int32} : (fhU σ t g).1 t j = g j := by
  show (bif Nat.beq t t then g j else σ.1 t j) = g j
  rw [Nat.beq_refl]; rfl
theorem fhU_o {σ : fhM} {t a j : Nat} {g : Nat → Int32} (h : a ≠ t) : (fhU σ t g).1 a j = σ.1 a j := by
  show (bif Nat.beq a t then g j else σ.1 a j) = σ.1 a j
  rw [beq_no h]; rfl
theorem fhU_2 {σ : fhM} {t : Nat} {g : Nat → Int32} : (fhU σ t g).2 = σ.2 := rfl
theorem fhV_1 {σ : fhM} {t : Nat} {g : Nat → Int64} : (fhV σ t g).1 = σ.1 := rfl
theorem fhV_22 {σ : fhM} {t : Nat} {g : Nat → Int64} : (fhV σ t g).2.2 = σ.2.2 := rfl
theorem fhV_e {σ : fhM} {t j : Nat} {g : Nat → Int64} : (fhV σ t g).2.1 t j = g j := by
  show (bif Nat.beq t t then g j else σ.2.1 t j) = g j
  rw [Nat.beq_refl]; rfl
theorem fhV_o {σ : fhM} {t a j : Nat} {g : Nat → Int64} (h : a ≠ t) : (fhV σ t g).2.1 a j = σ.2.1 a j := by
  show (bif Nat.beq a t then g j else σ.2.1 a j) = σ.2.1 a j
  rw [beq_no h]; rfl
theorem fhM_ext {σ s : fhM} (h1 : ∀ t j, σ.1 t j = s.1 t j) (h2 : σ.2 = s.2) : σ = s := Prod.ext (funext fun t => funext fun j => h1 t j) h2
theorem fhU_I {σ : fhM} {t k : Nat} {g : Nat → Int32} {x : Int32} : fhI (fhU σ t g) t k x = fhU σ t (fun j => if j = k then x else g j) := by
  refine fhM_ext (fun a j => ?_) rfl
  by_cases h : a = t
  · subst h
    rw [fhU_e]
    by_cases hj : j = k
    · subst hj; rw [fhI_e, if_pos rfl]
    · rw [fhI_s hj, fhU_e, if_neg hj]
  · rw [fhI_o h, fhU_o h, fhU_o h]
theorem fhU_IO {σ : fhM} {t a k : Nat} {g : Nat → Int32} {x : Int32} (h : a ≠ t) : fhI (fhU σ t g) a k x = fhU (fhI σ a k x) t g := by
  refine fhM_ext (fun b j => ?_) rfl
  by_cases hb : b = t
  · subst hb
    rw [fhU_e, fhI_o (fun q => h q.symm), fhU_e]
  · rw [fhU_o hb, fhI_r, fhI_r, fhU_o hb]
theorem fhU_U {σ : fhM} {t : Nat} {g g' : Nat → Int32} : fhU (fhU σ t g) t g' = fhU σ t g' := by
  refine fhM_ext (fun a j => ?_) rfl
  by_cases h : a = t
  · subst h; rw [fhU_e, fhU_e]
  · rw [fhU_o h, fhU_o h, fhU_o h]
theorem fhU_UO {σ : fhM} {t a : Nat} {g g' : Nat → Int32} (h : a ≠ t) : fhU (fhU σ t g) a g' = fhU (fhU σ a g') t g := by
  refine fhM_ext (fun b j => ?_) rfl
  by_cases h1 : b = a
  · subst h1; rw [fhU_e, fhU_o h, fhU_e]
  · by_cases h2 : b = t
    · subst h2; rw [fhU_o h1, fhU_e, fhU_e]
    · rw [fhU_o h1, fhU_o h2, fhU_o h2, fhU_o h1]
theorem fhU_id {σ : fhM} {t : Nat} {g : Nat → Int32} (h : ∀ j, g j = σ.1 t j) : fhU σ t g = σ := by
  refine fhM_ext (fun a j => ?_) rfl
  by_cases h1 : a = t
  · subst h1; rw [fhU_e]; exact h j
  · rw [fhU_o h1]
theorem fhU_cg {σ : fhM} {t : Nat} {g g' : Nat → Int32} (h : ∀ j, g j = g' j) : fhU σ t g = fhU σ t g' := by rw [funext h]
theorem fhI_I {σ : fhM} {t k : Nat} {x y : Int32} : fhI (fhI σ t k x) t k y = fhI σ t k y := by
  refine fhM_ext (fun a j => ?_) rfl
  rw [fhI_r, fhI_r, fhI_r]
  split <;> rfl
theorem fhI_id {σ : fhM} {t k : Nat} {x : Int32} (h : σ.1 t k = x) : fhI σ t k x = σ := by
  refine fhM_ext (fun a j => ?_) rfl
  rw [fhI_r]
  split
  · rename_i z; rw [z.1, z.2]; exact h.symm
  · rfl
theorem fhI_IO {σ : fhM} {t k a l : Nat} {x y : Int32} (h : a ≠ t ∨ l ≠ k) : fhI (fhI σ t k x) a l y = fhI (fhI σ a l y) t k x := by
  refine fhM_ext (fun b j => ?_) rfl
  rw [fhI_r, fhI_r, fhI_r, fhI_r]
  by_cases h1 : b = a ∧ j = l
  · rw [if_pos h1, if_neg (by omega), if_pos h1]
  · rw [if_neg h1, if_neg h1]
theorem fhI_U {σ : fhM} {t k : Nat} {x : Int32} : fhI σ t k x = fhU σ t (fun j => if j = k then x else σ.1 t j) := by
  rw [← fhU_I, fhU_id (fun _ => rfl)]
theorem fhV_J {σ : fhM} {t k : Nat} {g : Nat → Int64} {x : Int64} : fhJ (fhV σ t g) t k x = fhV σ t (fun j => if j = k then x else g j) := by
  have : (fhJ (fhV σ t g) t k x).2.1 = (fhV σ t (fun j => if j = k then x else g j)).2.1 := by
    funext a j
    rw [fhJ_r]
    by_cases h : a = t
    · subst h
      by_cases hj : j = k
      · rw [if_pos ⟨rfl, hj⟩, fhV_e, if_pos hj]
      · rw [if_neg (fun q => hj q.2), fhV_e, fhV_e, if_neg hj]
    · rw [if_neg (fun q => h q.1), fhV_o h, fhV_o h]
  exact Prod.ext rfl (Prod.ext this rfl)
theorem fhV_I {σ : fhM} {t a k : Nat} {g : Nat → Int64} {x : Int32} : fhI (fhV σ t g) a k x = fhV (fhI σ a k x) t g := rfl
theorem fhV_id {σ : fhM} {t : Nat} : fhV σ t (σ.2.1 t) = σ := by
  have : (fhV σ t (σ.2.1 t)).2.1 = σ.2.1 := by
    funext a j
    by_cases h : a = t
    · subst h; rw [fhV_e]
    · rw [fhV_o h]
  exact Prod.ext rfl (Prod.ext this rfl)
theorem fcG_U {σ : fhM} {t a : Nat} {g : Nat → Int32} {k : Int32} (h : a + 1 ≠ t) : fcG (fhU σ t g) a k = fcG σ a k := by
  unfold fcG
  rw [fhU_o h]
theorem fcG_I {σ : fhM} {t a i : Nat} {x : Int32} {k : Int32} (h : a + 1 ≠ t) : fcG (fhI σ t i x) a k = fcG σ a k := by
  unfold fcG
  rw [fhI_o h]
theorem fcG_V {σ : fhM} {t a : Nat} {g : Nat → Int64} {k : Int32} : fcG (fhV σ t g) a k = fcG σ a k := rfl
/-! numbers -/
theorem nI_leP {a b : Nat} (ha : a < 2 ^ 31) (hb : b < 2 ^ 31) : (nI a ≤ nI b) = (a ≤ b) := propext (nI_leI ha hb)
theorem nI_ltP {a b : Nat} (ha : a < 2 ^ 31) (hb : b < 2 ^ 31) : (nI a < nI b) = (a < b) := propext (nI_ltI ha hb)
theorem nI_lt0 {a : Nat} (ha : a < 2 ^ 31) : (nI a < 0) = False := eq_false (nI_pos ha)
theorem nI_0le {a : Nat} (ha : a < 2 ^ 31) : (0 ≤ nI a) = True := eq_true (nI_pos' ha)
theorem nI_le0 {a : Nat} (ha : a < 2 ^ 31) : (nI a ≤ 0) = (a = 0) := by
  rw [ph_0, nI_leP ha (by decide)]
  exact propext Nat.le_zero
theorem nI_0lt {a : Nat} (ha : a < 2 ^ 31) : (0 < nI a) = (0 < a) := by rw [ph_0, nI_ltP (by decide) ha]
theorem nI_eq0 {a : Nat} (ha : a < 2 ^ 31) : (nI a = 0) = (a = 0) := by rw [ph_0, nI_e ha (by decide)]
theorem nI_eq1 {a : Nat} (ha : a < 2 ^ 31) : (nI a = 1) = (a = 1) := by rw [show (1 : Int32) = nI 1 from rfl, nI_e ha (by decide)]
theorem nI_le1 {a : Nat} (ha : a < 2 ^ 31) : (nI a ≤ 1) = (a ≤ 1) := by rw [show (1 : Int32) = nI 1 from rfl, nI_leP ha (by decide)]
theorem nI_1le {a : Nat} (ha : a < 2 ^ 31) : ((1 : Int32) ≤ nI a) = (1 ≤ a) := by rw [show (1 : Int32) = nI 1 from rfl, nI_leP (by decide) ha]
theorem nI_lt1 {a : Nat} (ha : a < 2 ^ 31) : (nI a < 1) = (a = 0) := by
  rw [show (1 : Int32) = nI 1 from rfl, nI_ltP ha (by decide)]
  exact propext (by omega)
theorem nI_m1 {a : Nat} (ha : a < 2 ^ 31) : (nI a = -1) = False := eq_false (ph_m1n ha)
theorem nI_lem1 {a : Nat} (ha : a < 2 ^ 31) : ((-1 : Int32) ≤ nI a) = True := eq_true (by
  rw [Int32.le_iff_toInt_le, nI_toInt ha]
  have : (-1 : Int32).toInt = -1 := rfl
  omega)
theorem nI_dec {a : Nat} (h : 1 ≤ a) : nI a - 1 = nI (a - 1) := by
  rw [show a = a - 1 + 1 by omega, nI_pred]; rfl
theorem nI_decm {a : Nat} (h : 1 ≤ a) : nI a + (-1) = nI (a - 1) := by
  rw [show a = a - 1 + 1 by omega, pk_m1]; rfl
theorem fhnz_n {a : Nat} (ha : a < 2 ^ 31) : fhnz (nI a) = decide (a ≠ 0) := by
  unfold fhnz
  by_cases h : a = 0
  · subst h; rfl
  · rw [decide_eq_false (nI_ne0 (by omega) ha), decide_eq_true h]; rfl
theorem ph_bit1 {a l : Nat} (ha : a < 2 ^ 31) (hl : l < 32) : (((nI a >>> (nI l &&& 31)) &&& (1 : Int32)) = 1) = (a.testBit l = true) := by
  rw [ph_bit ha hl, nI_eq1 (by have := Nat.mod_lt (a / 2 ^ l) (show 0 < 2 by decide); omega), Nat.testBit_eq_decide_div_mod_eq]
  exact propext (by rw [decide_eq_true_iff])
theorem ph_bit0P {a l : Nat} (ha : a < 2 ^ 31) (hl : l < 32) : (((nI a >>> (nI l &&& 31)) &&& (1 : Int32)) = 0) = (a.testBit l = false) := propext (ph_bit0 ha hl)
theorem zI_2 : (2 : Int32) = nI 2 := rfl
theorem zI_3 : (3 : Int32) = nI 3 := rfl
theorem zI_4 : (4 : Int32) = nI 4 := rfl
theorem zI_5 : (5 : Int32) = nI 5 := rfl
theorem zI_6 : (6 : Int32) = nI 6 := rfl
theorem zI_7 : (7 : Int32) = nI 7 := rfl
theorem zI_8 : (8 : Int32) = nI 8 := rfl
theorem zI_9 : (9 : Int32) = nI 9 := rfl
theorem zI_10 : (10 : Int32) = nI 10 := rfl
theorem zI_11 : (11 : Int32) = nI 11 := rfl
theorem zI_12 : (12 : Int32) = nI 12 := rfl
theorem zI_13 : (13 : Int32) = nI 13 := rfl
theorem zI_14 : (14 : Int32) = nI 14 := rfl
theorem zI_15 : (15 : Int32) = nI 15 := rfl
theorem zI_16 : (16 : Int32) = nI 16 := rfl
theorem zI_20 : (20 : Int32) = nI 20 := rfl
theorem zI_24 : (24 : Int32) = nI 24 := rfl
theorem zI_25 : (25 : Int32) = nI 25 := rfl
theorem zI_26 : (26 : Int32) = nI 26 := rfl
theorem zI_27 : (27 : Int32) = nI 27 := rfl
theorem zI_28 : (28 : Int32) = nI 28 := rfl
theorem zI_29 : (29 : Int32) = nI 29 := rfl
theorem zI_30 : (30 : Int32) = nI 30 := rfl
theorem zI_32 : (32 : Int32) = nI 32 := rfl
theorem zI_35 : (35 : Int32) = nI 35 := rfl
theorem zI_40 : (40 : Int32) = nI 40 := rfl
theorem zI_60 : (60 : Int32) = nI 60 := rfl
theorem zI_64 : (64 : Int32) = nI 64 := rfl
theorem zI_97 : (97 : Int32) = nI 97 := rfl
theorem zI_99 : (99 : Int32) = nI 99 := rfl
theorem zI_100 : (100 : Int32) = nI 100 := rfl
theorem zI_197 : (197 : Int32) = nI 197 := rfl
theorem zI_251 : (251 : Int32) = nI 251 := rfl
theorem zI_255 : (255 : Int32) = nI 255 := rfl
theorem zI_256 : (256 : Int32) = nI 256 := rfl
theorem zI_511 : (511 : Int32) = nI 511 := rfl
theorem zI_512 : (512 : Int32) = nI 512 := rfl
theorem zI_999 : (999 : Int32) = nI 999 := rfl
theorem zI_1000 : (1000 : Int32) = nI 1000 := rfl
theorem zI_1024 : (1024 : Int32) = nI 1024 := rfl
theorem zI_1025 : (1025 : Int32) = nI 1025 := rfl
theorem zI_1026 : (1026 : Int32) = nI 1026 := rfl
theorem zI_1027 : (1027 : Int32) = nI 1027 := rfl
theorem zI_1183 : (1183 : Int32) = nI 1183 := rfl
theorem zI_1187 : (1187 : Int32) = nI 1187 := rfl
theorem zI_1600 : (1600 : Int32) = nI 1600 := rfl
theorem zI_5120 : (5120 : Int32) = nI 5120 := rfl
