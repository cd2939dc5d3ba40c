/-! THE REFERENCE LAYS TESTS, KEYS -/
theorem m_markOf {m : Nat} (hm : 2 ≤ m ∧ m ≤ 4) {σ : fhM} (h5 : σ.1 29 5 = nI m) {r i : Nat} (hr : r < 2 ^ 31) (hi : i < 5) : f_X12_markOf (nI r) (nI i) σ = some (nI (mkr m r i)) := by
  refine wq_eq ?_
  unfold f_X12_markOf
  refine wq_for (R := fun k x => x = (nI (r / m ^ k), nI k)) 0 i (Nat.zero_le _) ?_ ?_ ?_
  · rintro k x - hk rfl
    (try dsimp only)
    unfold f_X12_markOf_5 f_X12_markMany
    have hq : r / m ^ k ≤ r := Nat.div_le_self _ _
    rw [if_neg (nI_ge hk (by omega)), h5, ph_nz (by omega) (by omega), if_pos (show (true && true) = true from rfl), pk_div (by omega) (by omega) (by omega), Nat.div_div_eq_div_mul, ← Nat.pow_succ, nI_1, wq_some, fhK_l]
  · rintro x rfl
    (try dsimp only)
    unfold f_X12_markOf_5 f_X12_markMany
    have hq : r / m ^ i ≤ r := Nat.div_le_self _ _
    rw [if_pos (nI_le (Nat.le_refl _) (by omega)), h5, ph_nz (by omega) (by omega), if_pos (show (true && true) = true from rfl), ph_rem (by omega) (by omega) (by omega), wq_some, fhK_r]
    rfl
  · rw [Nat.pow_zero, Nat.div_one]
    rfl
theorem vws_at {p : fhPS} {r i j : Nat} (h : j < p.gs.length) : (vws p r i p.gs.length)[j]? = some (if (sbP p i).testBit j = true then mkr p.m r j else 0) := by
  unfold vws
  rw [List.getElem?_map, List.getElem?_range h]
  rfl
theorem m_keyOf {p : fhPS} (hm : 2 ≤ p.m ∧ p.m ≤ 4) (hg : p.gs.length ≤ 5) {σ : fhM} (h5 : σ.1 29 5 = nI p.m) (h6 : σ.1 29 6 = nI p.gs.length) {r i : Nat} (hr : r < 2 ^ 31) (hi : i < 5) (hs : σ.1 32 (5 + i) = nI (sbP p i)) : f_X12_keyOf (nI r) (nI i) σ = some (nI (vwP p r i)) := by
  refine wq_eq ?_
  unfold f_X12_keyOf f_X12_guestMany
  rw [h6]
  have hb := sbP_lt p i
  have h2p : 2 ^ p.gs.length ≤ 2 ^ 5 := Nat.pow_le_pow_right (by decide) hg
  have hl := vws_len p r i p.gs.length
  refine wq_for (R := fun k x => x = (nI (wsum p.m ((vws p r i p.gs.length).drop (p.gs.length - k))), nI (p.gs.length - k) - 1)) 0 p.gs.length (Nat.zero_le _) ?_ ?_ ?_
  · rintro k x - hk rfl
    (try dsimp only)
    unfold f_X12_keyOf_10 f_X12_keyOf_49 f_X12_markMany
    obtain ⟨j, hj⟩ : ∃ j, p.gs.length - k = j + 1 := ⟨p.gs.length - k - 1, by omega⟩
    have hjl : j < p.gs.length := by omega
    have hx := vws_at (r := r) (i := i) hjl
    have hjv : j < (vws p r i p.gs.length).length := by omega
    have hd : (vws p r i p.gs.length).drop j = (if (sbP p i).testBit j = true then mkr p.m r j else 0) :: (vws p r i p.gs.length).drop (j + 1) := by
      rw [List.drop_eq_getElem_cons hjv]
      rw [List.getElem?_eq_getElem hjv] at hx
      rw [Option.some.inj hx]
    rw [hj, nI_pred, if_neg (nI_pos (by omega)), show (5 : Int32) = nI 5 from rfl, nI_add, if_pos (ph_in1 (by omega) (by omega)), ph_ix (by omega), hs, h5, m_markOf hm h5 hr (by omega), pk_mul, show p.gs.length - (k + 1) = j by omega, hd, i32_sub1]
    by_cases q : (sbP p i).testBit j = true
    · rw [if_pos (show ((nI (sbP p i) >>> (nI j &&& 31)) &&& (1 : Int32)) = 1 by rw [ph_bit1 (by omega) (by omega)]; exact q), wq_bind, wq_some, wq_some, fhK_l, nI_add, if_pos q]
      show (nI (p.m * wsum p.m ((vws p r i p.gs.length).drop (j + 1)) + mkr p.m r j), _) = (nI (mkr p.m r j + p.m * wsum p.m ((vws p r i p.gs.length).drop (j + 1))), _)
      rw [Nat.add_comm]
    · rw [if_neg (show ¬ ((nI (sbP p i) >>> (nI j &&& 31)) &&& (1 : Int32)) = 1 by rw [ph_bit1 (by omega) (by omega)]; exact q), wq_some, fhK_l, ph_0, nI_add, if_neg q]
      show (nI (p.m * wsum p.m ((vws p r i p.gs.length).drop (j + 1)) + 0), _) = (nI (0 + p.m * wsum p.m ((vws p r i p.gs.length).drop (j + 1))), _)
      rw [Nat.add_comm]
  · rintro x rfl
    (try dsimp only)
    unfold f_X12_keyOf_10
    rw [Nat.sub_self, if_pos (show nI 0 - 1 < 0 by decide), wq_some, fhK_r]
    rfl
  · have e0 : (vws p r i p.gs.length).drop p.gs.length = [] := List.drop_eq_nil_of_le (by omega)
    rw [Nat.sub_zero, e0]
    rfl
def jD (t j : Nat) : Prop := t = 36 ∨ t = 78 ∨ (t = 0 ∧ (j = 50 ∨ j = 105))
/-- a loaded test at a row -/
theorem m_rowtest {p : fhPS} {T : tT} {k : Nat} (ho : sOK T p k) {c : gC} (hl : c.length ≤ 1600) (hrun : ∀ lf lk, run false p.gs.length lf lk c [] = some [evc false p.gs.length lf lk c]) {σ : fhM} (hS : rS c σ) {row : Nat} (hrow : row < 2 ^ 31) (i0 : Nat) {Q : Int64 × fhM → Prop} (hQ : ∀ s, frl jD σ s → Q (lI (evc false p.gs.length (lfR (rowm p.m p.gs.length row)) (lkR (rowm p.m p.gs.length row)) c), s)) :
    wq (f_X12_laysRow (nI row) (nI p.m) (nI p.gs.length) σ) (fun q3 => wq (f_X12_qTold (nI i0) q3) Q) := by
  obtain ⟨o1, o2, o3, o4, o5, o6, o7, o8, o9, o10, o11, o12, o13⟩ := ho
  refine wq_mono (m_laysRow ⟨o3, o4⟩ o5 hrow _) (fun s z => ?_)
  obtain ⟨t, rfl, ht⟩ := z
  have f2 : frl jD σ (fhU (fhI σ 0 50 (nI p.gs.length)) 36 t) := frl_U (frl_I frl_rf (by unfold jD; omega)) (fun j => by unfold jD; omega)
  have hrw : rwM p.m p.gs.length row (fhU (fhI σ 0 50 (nI p.gs.length)) 36 t) := ⟨by rw [fhU_o (by decide), fhI_e], fun i hi => by rw [fhU_e]; exact ht i hi⟩
  have hS2 : rS c (fhU (fhI σ 0 50 (nI p.gs.length)) 36 t) := rS_fr hS (by rw [fhU_o (by decide), fhI_s (by decide)]) (fun i => by rw [fhU_o (by decide), fhI_o (by decide)])
  refine wq_mono (m_told o5 (m_leaves ⟨o3, o4⟩ o5 hrw i0) hS2 hl (hrun _ _)) (fun r z => ?_)
  obtain ⟨r1, r2⟩ := r
  obtain ⟨z1, z2, gg, z3⟩ := z
  dsimp only at z1 z3
  subst z1
  subst z3
  exact hQ _ (frl_st f2 (by unfold jD; omega) (fun j => by unfold jD; omega))
noncomputable def alT (p : fhPS) (t r : Nat) : Bool := (p.ru.take t).all (hlP p r)
noncomputable def trT (p : fhPS) (t r : Nat) : Nat := bitsN ((p.fa.take t).map (hlP p r)) 0
theorem alT_s {p : fhPS} {t r : Nat} {c : gC} (hc : p.ru[t]? = some c) : alT p (t + 1) r = (alT p t r && hlP p r c) := by
  unfold alT
  rw [List.take_add_one, hc, List.all_append]
  simp
theorem trT_s {p : fhPS} {t r : Nat} {c : gC} (hc : p.fa[t]? = some c) : trT p (t + 1) r = trT p t r ||| (bif hlP p r c then 2 ^ t else 0) := by
  unfold trT
  have hlen : ((p.fa.take t).map (hlP p r)).length = t := by
    have := (List.getElem?_eq_some_iff.mp hc).1
    rw [List.length_map, List.length_take]; omega
  rw [List.take_add_one, hc, List.map_append, show (some c).toList.map (hlP p r) = [hlP p r c] from rfl, bitsN_app, hlen, Nat.zero_add]
theorem trT_lt {p : fhPS} (h8 : p.fa.length ≤ 8) (t r : Nat) : trT p t r < 256 := by
  have h := bitsN_lt ((p.fa.take t).map (hlP p r)) 0
  have h1 : ((p.fa.take t).map (hlP p r)).length ≤ 8 := by rw [List.length_map, List.length_take]; omega
  have h2 : 2 ^ (0 + ((p.fa.take t).map (hlP p r)).length) ≤ 2 ^ 8 := Nat.pow_le_pow_right (by decide) (by omega)
  unfold trT
  omega
theorem b2n (b : Bool) : nI (if b = true then 1 else 0) = if b = true then (1 : Int32) else 0 := by cases b <;> rfl
def tD (t j : Nat) : Prop := t = 37 ∨ t = 38 ∨ kD t j
/-- a rule over all rows -/
theorem m_rule {p : fhPS} {T : tT} {k0 : Nat} (hT : T.2 ≤ 1600) (ho : sOK T p k0) {σ : fhM} (hr : mRp p σ) (h5 : σ.1 29 5 = nI p.m) (h6 : σ.1 29 6 = nI p.gs.length) (h52 : σ.1 0 52 = nI (p.m ^ p.gs.length)) {t : Nat} {c : gC} (hc : p.ru[t]? = some c) (h37 : ∀ r, r < p.m ^ p.gs.length → σ.1 37 r = nI (if alT p t r = true then 1 else 0)) :
    wq (f_X12_laysTests_105 (nI t) σ) (fhK (fun x : Int32 × fhM => ∃ s, x = (nI (t + 1), s) ∧ frl (fun a j => a = 37 ∨ kD a j) σ s ∧ ∀ r, r < p.m ^ p.gs.length → s.1 37 r = nI (if alT p (t + 1) r = true then 1 else 0)) (fun _ => False)) := by
  obtain ⟨w1, w2⟩ := sOK_wrn ho
  have ho' := ho
  obtain ⟨o1, o2, o3, o4, o5, o6, o7, o8, o9, o10, o11, o12, o13⟩ := ho'
  have htl := (List.getElem?_eq_some_iff.mp hc).1
  have htot := tot_of (p := p)
  have hcm := List.mem_of_getElem? hc
  have hmt : mTs 0 p.ru (tot p) σ := hr.2.2.2.2.2.2.2.2.1
  have hcl : c.length ≤ tot p := by
    obtain ⟨a, h1, h2, h3, h4⟩ := hmt t c hc
    omega
  unfold f_X12_laysTests_105
  rw [wq_bind]
  have hld := m_loads (b := 0) hmt hc (by omega) (by omega)
  rw [Nat.zero_add] at hld
  refine wq_mono hld (fun s0 z => ?_)
  obtain ⟨g, rfl, hS⟩ := z
  have f0 : frl (fun a j => a = 37 ∨ kD a j) σ (fhU (fhI σ 0 99 (nI c.length)) 76 g) := frl_U (frl_I frl_rf (by unfold kD; omega)) (fun j => by unfold kD; omega)
  have e37 : ∀ r, (fhU (fhI σ 0 99 (nI c.length)) 76 g).1 37 r = σ.1 37 r := fun r => by rw [fhU_o (by decide), fhI_o (by decide)]
  generalize (fhU (fhI σ 0 99 (nI c.length)) 76 g) = σ0 at *
  refine wq_for (R := fun v x => ∃ s, x = (nI v, s) ∧ frl (fun a j => a = 37 ∨ kD a j) σ s ∧ rS c s ∧ ∀ r, r < p.m ^ p.gs.length → s.1 37 r = nI (if (if r < v then alT p (t + 1) r else alT p t r) = true then 1 else 0)) 0 (p.m ^ p.gs.length) (Nat.zero_le _) ?_ ?_ ⟨σ0, rfl, f0, hS, fun r hr => by rw [e37, if_neg (Nat.not_lt_zero r)]; exact h37 r hr⟩
  · rintro v x - hv ⟨s, rfl, hf, hS, h⟩
    (try dsimp only)
    unfold f_X12_laysTests_112 f_X12_markMany f_X12_guestMany
    have e : ∀ a j, a ≠ 37 → ¬ kD a j → s.1 a j = σ.1 a j := fun a j h1 h2 => (hf.1 a j (by rintro (z | z); exact h1 z; exact h2 z)).1
    rw [e 0 52 (by decide) (by unfold kD; omega), h52, if_neg (nI_ge hv (by omega)), e 29 5 (by decide) (by unfold kD; omega), e 29 6 (by decide) (by unfold kD; omega), h5, h6, wq_bind]
    have hb1 := ((sOK_ev (lf := lfR (rowm p.m p.gs.length v)) (lk := lkR (rowm p.m p.gs.length v)) ho).1 c hcm).1
    refine wq_mono (m_rowtest ho (by omega) (fun lf lk => ((sOK_ev ho).1 c hcm).2) hS (row := v) (by omega) 0 (Q := fun q4 => wq (f_X12_laysTests_148 (nI t) (nI v) (if lg_cmp q4.1 (1 : Int64) = 0 then (1 : Int32) else (0 : Int32)) q4.2) (fhK (fun x : Int32 × fhM => ∃ s, x = (nI (v + 1), s) ∧ frl (fun a j => a = 37 ∨ kD a j) σ s ∧ rS c s ∧ ∀ r, r < p.m ^ p.gs.length → s.1 37 r = nI (if (if r < v + 1 then alT p (t + 1) r else alT p t r) = true then 1 else 0)) (fhK (fun x : Int32 × fhM => ∃ s, x = (nI (t + 1), s) ∧ frl (fun a j => a = 37 ∨ kD a j) σ s ∧ ∀ r, r < p.m ^ p.gs.length → s.1 37 r = nI (if alT p (t + 1) r = true then 1 else 0)) (fun _ => False)))) (fun s2 f2 => ?_)) (fun q3 z => by rw [wq_bind]; exact z)
    have f3 : frl (fun a j => a = 37 ∨ kD a j) σ s2 := frl_tr hf (frl_mo f2 (fun a j z => by unfold jD at z; unfold kD; omega))
    have e2 : ∀ r, s2.1 37 r = s.1 37 r := fun r => (f2.1 37 r (by unfold jD; omega)).1
    have hS2 : rS c s2 := rS_fr hS (f2.1 0 99 (by unfold jD; omega)).1 (fun i => (f2.1 76 i (by unfold jD; omega)).1)
    unfold f_X12_laysTests_148 f_X12_laysTests_165 f_X12_laysTests_188
    dsimp only
    have hhl : hlP p v c = decide (evc false p.gs.length (lfR (rowm p.m p.gs.length v)) (lkR (rowm p.m p.gs.length v)) c = 1) := rfl
    rw [if_neg (show ¬ (4 : Int32) ≤ nI t from nI_ge (b := 4) (by omega) (by decide)), if_pos (show nI t < (4 : Int32) from nI_lt (b := 4) (by omega) (by decide))]
    by_cases q : evc false p.gs.length (lfR (rowm p.m p.gs.length v)) (lkR (rowm p.m p.gs.length v)) c = 1
    · rw [if_pos (show lg_cmp (lI _) (1 : Int64) = 0 by rw [hol_1 hb1]; exact decide_eq_true q), if_neg (show ¬ (1 : Int32) = 0 by decide), if_pos (show nI t < (4 : Int32) from nI_lt (b := 4) (by omega) (by decide)), wq_some, fhK_l, nI_1]
      refine ⟨s2, rfl, f3, hS2, fun r hr => ?_⟩
      rw [e2, h r hr]
      by_cases qr : r = v
      · rw [if_neg (show ¬ r < v by omega), if_pos (show r < v + 1 by omega), qr, alT_s hc, hhl, decide_eq_true q, Bool.and_true]
      · by_cases q2 : r < v
        · rw [if_pos q2, if_pos (show r < v + 1 by omega)]
        · rw [if_neg q2, if_neg (show ¬ r < v + 1 by omega)]
    · rw [if_neg (show ¬ lg_cmp (lI _) (1 : Int64) = 0 by rw [hol_1 hb1]; exact fun z => q (of_decide_eq_true z)), if_pos (show (0 : Int32) = 0 from rfl), if_pos (ph_in1 (by omega) (by omega)), ph_ix (by omega), wq_some, fhK_l, nI_1]
      refine ⟨_, rfl, frl_I f3 (Or.inl rfl), rS_fr hS2 (by rw [fhI_o (by decide)]) (fun i => by rw [fhI_o (by decide)]), fun r hr => ?_⟩
      by_cases qr : r = v
      · rw [qr, fhI_e, if_pos (show v < v + 1 by omega), alT_s hc, hhl, decide_eq_false q, Bool.and_false, if_neg (by decide)]
        rfl
      · rw [fhI_s qr, e2, h r hr]
        by_cases q2 : r < v
        · rw [if_pos q2, if_pos (show r < v + 1 by omega)]
        · rw [if_neg q2, if_neg (show ¬ r < v + 1 by omega)]
  · rintro x ⟨s, rfl, hf, hS, h⟩
    (try dsimp only)
    unfold f_X12_laysTests_112
    have e : ∀ a j, a ≠ 37 → ¬ kD a j → s.1 a j = σ.1 a j := fun a j h1 h2 => (hf.1 a j (by rintro (z | z); exact h1 z; exact h2 z)).1
    rw [e 0 52 (by decide) (by unfold kD; omega), h52, if_pos (nI_le (Nat.le_refl _) (by omega)), wq_map]
    unfold f_X12_laysTests_194
    rw [nI_1, wq_some, fhK_r, fhK_l]
    exact ⟨s, rfl, hf, fun r hr => by rw [h r hr, if_pos hr]⟩
/-- a fact over all rows -/
theorem m_fact {p : fhPS} {T : tT} {k0 : Nat} (hT : T.2 ≤ 1600) (ho : sOK T p k0) {σ : fhM} (hr : mRp p σ) (h5 : σ.1 29 5 = nI p.m) (h6 : σ.1 29 6 = nI p.gs.length) (h52 : σ.1 0 52 = nI (p.m ^ p.gs.length)) {t : Nat} {c : gC} (hc : p.fa[t]? = some c) (h38 : ∀ r, r < p.m ^ p.gs.length → σ.1 38 r = nI (trT p t r)) :
    wq (f_X12_laysTests_105 (nI (4 + t)) σ) (fhK (fun x : Int32 × fhM => ∃ s, x = (nI (4 + t + 1), s) ∧ frl (fun a j => a = 38 ∨ kD a j) σ s ∧ ∀ r, r < p.m ^ p.gs.length → s.1 38 r = nI (trT p (t + 1) r)) (fun _ => False)) := by
  obtain ⟨w1, w2⟩ := sOK_wrn ho
  have ho' := ho
  obtain ⟨o1, o2, o3, o4, o5, o6, o7, o8, o9, o10, o11, o12, o13⟩ := ho'
  have htl := (List.getElem?_eq_some_iff.mp hc).1
  have htot := tot_of (p := p)
  have hcm := List.mem_of_getElem? hc
  have hmt : mTs 4 p.fa (tot p) σ := hr.2.2.2.2.2.2.2.2.2.1
  have hcl : c.length ≤ tot p := by
    obtain ⟨a, h1, h2, h3, h4⟩ := hmt t c hc
    omega
  unfold f_X12_laysTests_105
  rw [wq_bind]
  refine wq_mono (m_loads (b := 4) hmt hc (by omega) (by omega)) (fun s0 z => ?_)
  obtain ⟨g, rfl, hS⟩ := z
  have f0 : frl (fun a j => a = 38 ∨ kD a j) σ (fhU (fhI σ 0 99 (nI c.length)) 76 g) := frl_U (frl_I frl_rf (by unfold kD; omega)) (fun j => by unfold kD; omega)
  have e38 : ∀ r, (fhU (fhI σ 0 99 (nI c.length)) 76 g).1 38 r = σ.1 38 r := fun r => by rw [fhU_o (by decide), fhI_o (by decide)]
  generalize (fhU (fhI σ 0 99 (nI c.length)) 76 g) = σ0 at *
  refine wq_for (R := fun v x => ∃ s, x = (nI v, s) ∧ frl (fun a j => a = 38 ∨ kD a j) σ s ∧ rS c s ∧ ∀ r, r < p.m ^ p.gs.length → s.1 38 r = nI (if r < v then trT p (t + 1) r else trT p t r)) 0 (p.m ^ p.gs.length) (Nat.zero_le _) ?_ ?_ ⟨σ0, rfl, f0, hS, fun r hr => by rw [e38, if_neg (Nat.not_lt_zero r)]; exact h38 r hr⟩
  · rintro v x - hv ⟨s, rfl, hf, hS, h⟩
    (try dsimp only)
    unfold f_X12_laysTests_112 f_X12_markMany f_X12_guestMany
    have e : ∀ a j, a ≠ 38 → ¬ kD a j → s.1 a j = σ.1 a j := fun a j h1 h2 => (hf.1 a j (by rintro (z | z); exact h1 z; exact h2 z)).1
    rw [e 0 52 (by decide) (by unfold kD; omega), h52, if_neg (nI_ge hv (by omega)), e 29 5 (by decide) (by unfold kD; omega), e 29 6 (by decide) (by unfold kD; omega), h5, h6, wq_bind]
    have hb1 := ((sOK_ev (lf := lfR (rowm p.m p.gs.length v)) (lk := lkR (rowm p.m p.gs.length v)) ho).2 c hcm).1
    refine wq_mono (m_rowtest ho (by omega) (fun lf lk => ((sOK_ev ho).2 c hcm).2) hS (row := v) (by omega) 0 (Q := fun q4 => wq (f_X12_laysTests_148 (nI (4 + t)) (nI v) (if lg_cmp q4.1 (1 : Int64) = 0 then (1 : Int32) else (0 : Int32)) q4.2) (fhK (fun x : Int32 × fhM => ∃ s, x = (nI (v + 1), s) ∧ frl (fun a j => a = 38 ∨ kD a j) σ s ∧ rS c s ∧ ∀ r, r < p.m ^ p.gs.length → s.1 38 r = nI (if r < v + 1 then trT p (t + 1) r else trT p t r)) (fhK (fun x : Int32 × fhM => ∃ s, x = (nI (4 + t + 1), s) ∧ frl (fun a j => a = 38 ∨ kD a j) σ s ∧ ∀ r, r < p.m ^ p.gs.length → s.1 38 r = nI (trT p (t + 1) r)) (fun _ => False)))) (fun s2 f2 => ?_)) (fun q3 z => by rw [wq_bind]; exact z)
    have f3 : frl (fun a j => a = 38 ∨ kD a j) σ s2 := frl_tr hf (frl_mo f2 (fun a j z => by unfold jD at z; unfold kD; omega))
    have e2 : ∀ r, s2.1 38 r = s.1 38 r := fun r => (f2.1 38 r (by unfold jD; omega)).1
    have hS2 : rS c s2 := rS_fr hS (f2.1 0 99 (by unfold jD; omega)).1 (fun i => (f2.1 76 i (by unfold jD; omega)).1)
    unfold f_X12_laysTests_148 f_X12_laysTests_165 f_X12_laysTests_188
    dsimp only
    have hhl : hlP p v c = decide (evc false p.gs.length (lfR (rowm p.m p.gs.length v)) (lkR (rowm p.m p.gs.length v)) c = 1) := rfl
    rw [if_pos (show (4 : Int32) ≤ nI (4 + t) from nI_le (a := 4) (by omega) (by omega)), if_neg (show ¬ nI (4 + t) < (4 : Int32) from nI_nlt (b := 4) (by omega) (by omega))]
    by_cases q : evc false p.gs.length (lfR (rowm p.m p.gs.length v)) (lkR (rowm p.m p.gs.length v)) c = 1
    · have hsub : nI (4 + t) - (4 : Int32) = nI t := by rw [show (4 : Int32) = nI 4 from rfl, pk_sub (by omega), show 4 + t - 4 = t by omega]
      rw [if_pos (show lg_cmp (lI _) (1 : Int64) = 0 by rw [hol_1 hb1]; exact decide_eq_true q), if_neg (show ¬ (1 : Int32) = 0 by decide), ph_in (by omega), decide_eq_true (show v < 1024 by omega), if_pos (show (true && (true && true)) = true from rfl), ph_ix (by omega), hsub, ph_shl1 (by omega), e2, h v hv, if_neg (Nat.lt_irrefl v), ph_or, wq_some, fhK_l, nI_1]
      refine ⟨_, rfl, frl_I f3 (Or.inl rfl), rS_fr hS2 (by rw [fhI_o (by decide)]) (fun i => by rw [fhI_o (by decide)]), fun r hr => ?_⟩
      by_cases qr : r = v
      · rw [qr, fhI_e, if_pos (show v < v + 1 by omega), trT_s hc, hhl, decide_eq_true q]
        rfl
      · rw [fhI_s qr, e2, h r hr]
        by_cases q2 : r < v
        · rw [if_pos q2, if_pos (show r < v + 1 by omega)]
        · rw [if_neg q2, if_neg (show ¬ r < v + 1 by omega)]
    · rw [if_neg (show ¬ lg_cmp (lI _) (1 : Int64) = 0 by rw [hol_1 hb1]; exact fun z => q (of_decide_eq_true z)), if_pos (show (0 : Int32) = 0 from rfl), wq_some, fhK_l, nI_1]
      refine ⟨s2, rfl, f3, hS2, fun r hr => ?_⟩
      rw [e2, h r hr]
      by_cases qr : r = v
      · rw [if_neg (show ¬ r < v by omega), if_pos (show r < v + 1 by omega), qr, trT_s hc, hhl, decide_eq_false q]
        show _ = nI (trT p t v ||| 0)
        rw [Nat.or_zero]
      · by_cases q2 : r < v
        · rw [if_pos q2, if_pos (show r < v + 1 by omega)]
        · rw [if_neg q2, if_neg (show ¬ r < v + 1 by omega)]
  · rintro x ⟨s, rfl, hf, hS, h⟩
    (try dsimp only)
    unfold f_X12_laysTests_112
    have e : ∀ a j, a ≠ 38 → ¬ kD a j → s.1 a j = σ.1 a j := fun a j h1 h2 => (hf.1 a j (by rintro (z | z); exact h1 z; exact h2 z)).1
    rw [e 0 52 (by decide) (by unfold kD; omega), h52, if_pos (nI_le (Nat.le_refl _) (by omega)), wq_map]
    unfold f_X12_laysTests_194
    rw [nI_1, wq_some, fhK_r, fhK_l]
    exact ⟨s, rfl, hf, fun r hr => by rw [h r hr, if_pos hr]⟩
