/-! THE JOURNAL, the class: taking back, noting, reading -/
def jDp (t : Nat) : Prop := gD4 t ∨ t = 93
theorem c_restore {W : gW} (hW : wOK W) {σ : fhM} (hrw : rwF W σ) (hz : psF σ) (h11 : σ.1 39 11 = nI W.N) {G : gG} {S : List gG} {p : Nat} (hS : stkF W.N (G :: S) p σ) :
    wq (f_X6_restore σ) (fun r => r.1 = true ∧ gmF W G.L G.w G.rd r.2 ∧ r.2.1 57 3 = 0 ∧ r.2.1 93 1 = nI G.H.length ∧ r.2.1 93 3 = nI ((p + 19) % 20) ∧ r.2.1 93 4 = nI S.length ∧ fpl jDp σ r.2) := by
  obtain ⟨s3, hp, s4, hl, hsl⟩ := hS
  have hsl0 := hsl 0 G rfl
  rw [Nat.sub_zero] at hsl0
  rw [List.length_cons] at s4 hl
  have hq : (p + 19) % 20 < 20 := Nat.mod_lt _ (by decide)
  have hN10 := hW.2.1
  have hll := rl_len W.N G.L
  have e3 : fhrem ((nI p + (20 : Int32)) - (1 : Int32)) (20 : Int32) = nI ((p + 19) % 20) := by
    rw [show (20 : Int32) = nI 20 from rfl, show (1 : Int32) = nI 1 from rfl, nI_add, pk_sub (by omega), ph_rem (by omega) (by decide) (by decide), show p + 20 - 1 = p + 19 by omega]
  generalize (p + 19) % 20 = q at hq hsl0 e3
  obtain ⟨t0, t1, t2, tb⟩ := hsl0
  unfold f_X6_restore fhlet
  rw [s4, if_neg (nI_ne0 (by omega) (by omega)), s3, e3, show (35 : Int32) = nI 35 from rfl, pk_mul, Nat.mul_comm q 35, show (1 : Int32) = nI 1 from rfl, show (2 : Int32) = nI 2 from rfl, pk_sub (by omega), show S.length + 1 - 1 = S.length by omega]
  dsimp only
  rw [nI_add, nI_add, cg96 (k := 35 * q) (by omega), cg96 (k := 35 * q + 1) (by omega), cg96 (k := 35 * q + 2) (by omega)]
  simp only [fhI_o (show (97 : Nat) ≠ 93 by decide), fhI_o (show (97 : Nat) ≠ 56 by decide)]
  rw [t0, t1, t2]
  have hpl : ∀ t, t ≠ 93 → t ≠ 56 → ∀ j, (fhI (fhI (fhI (fhI (fhI σ 93 4 (nI S.length)) 93 3 (nI q)) 56 9 (nI G.w)) 56 10 (nI G.rd)) 93 1 (nI G.H.length)).1 t j = σ.1 t j := fun t a b j => by
    rw [fhI_o a, fhI_o b, fhI_o b, fhI_o a, fhI_o a]
  have hj1 : (fhI (fhI (fhI (fhI (fhI σ 93 4 (nI S.length)) 93 3 (nI q)) 56 9 (nI G.w)) 56 10 (nI G.rd)) 93 1 (nI G.H.length)).1 93 1 = nI G.H.length := fhI_e
  have hj3 : (fhI (fhI (fhI (fhI (fhI σ 93 4 (nI S.length)) 93 3 (nI q)) 56 9 (nI G.w)) 56 10 (nI G.rd)) 93 1 (nI G.H.length)).1 93 3 = nI q := by
    rw [fhI_s (by decide), fhI_o (by decide), fhI_o (by decide), fhI_e]
  have hj4 : (fhI (fhI (fhI (fhI (fhI σ 93 4 (nI S.length)) 93 3 (nI q)) 56 9 (nI G.w)) 56 10 (nI G.rd)) 93 1 (nI G.H.length)).1 93 4 = nI S.length := by
    rw [fhI_s (by decide), fhI_o (by decide), fhI_o (by decide), fhI_s (by decide), fhI_e]
  have hg9 : (fhI (fhI (fhI (fhI (fhI σ 93 4 (nI S.length)) 93 3 (nI q)) 56 9 (nI G.w)) 56 10 (nI G.rd)) 93 1 (nI G.H.length)).1 56 9 = nI G.w := by
    rw [fhI_o (by decide), fhI_s (by decide), fhI_e]
  have hg10 : (fhI (fhI (fhI (fhI (fhI σ 93 4 (nI S.length)) 93 3 (nI q)) 56 9 (nI G.w)) 56 10 (nI G.rd)) 93 1 (nI G.H.length)).1 56 10 = nI G.rd := by
    rw [fhI_o (by decide), fhI_e]
  have hfp : fpl jDp σ (fhI (fhI (fhI (fhI (fhI σ 93 4 (nI S.length)) 93 3 (nI q)) 56 9 (nI G.w)) 56 10 (nI G.rd)) 93 1 (nI G.H.length)) := fpl_I (fpl_I (fpl_I (fpl_I (fpl_I fpl_rf (Or.inr rfl)) (Or.inr rfl)) (Or.inl (Or.inl rfl))) (Or.inl (Or.inl rfl))) (Or.inr rfl)
  generalize fhI (fhI (fhI (fhI (fhI σ 93 4 (nI S.length)) 93 3 (nI q)) 56 9 (nI G.w)) 56 10 (nI G.rd)) 93 1 (nI G.H.length) = σ0 at hpl hj1 hj3 hj4 hg9 hg10 hfp ⊢
  refine wq_for (R := fun k x => ∃ g, x = (nI k, fhI (fhU σ0 73 g) 56 8 (nI (rl k G.L).length)) ∧ ∀ j, j < (rl k G.L).length → g j = nI ((rl k G.L).getD j 0)) 0 W.N (Nat.zero_le _) ?_ ?_ ⟨σ0.1 73, by rw [fhU_id (fun _ => rfl)]; rfl, fun j hj => absurd hj (Nat.not_lt_zero _)⟩
  · rintro k x - hk ⟨g, rfl, hgl⟩
    (try dsimp only)
    unfold f_X6_restore_90 f_X6_restore_147
    have hlk := rl_len k G.L
    obtain ⟨a, ta, tab⟩ := tb (k / 32) (by omega)
    have tabk := tab (k % 32) (Nat.mod_lt _ (by decide))
    have hm : 32 * (k / 32) + k % 32 = k := Nat.div_add_mod k 32
    rw [hm] at tabk
    have hand : nI k &&& (31 : Int32) = nI (k % 32) := by
      rw [show (31 : Int32) = nI 31 from rfl, ph_and, show k &&& 31 = k % 32 from Nat.and_two_pow_sub_one_eq_mod k 5]
    have hkm : k ∈ rl W.N G.L ↔ G.L k = true := by rw [rl_mem]; exact ⟨fun z => z.2, fun z => ⟨hk, z⟩⟩
    rw [fhI_o (show 39 ≠ 56 by decide), fhU_o (show 39 ≠ 73 by decide), hpl 39 (by decide) (by decide), h11, if_neg (nI_ge hk (by omega)), hand]
    rw [show (5 : Int32) = nI 5 from rfl, ph_shr (by omega) (by omega), show (3 : Int32) = nI 3 from rfl, nI_add, nI_add, show (2 : Nat) ^ 5 = 32 from rfl, cg96 (by omega), fhI_o (show 97 ≠ 56 by decide), fhU_o (show 97 ≠ 73 by decide), hpl 97 (by decide) (by decide), ta, ph_bitA (Nat.mod_lt _ (by decide)), tabk, nI_1, rl_s]
    by_cases ql : G.L k = true
    · rw [decide_eq_true (hkm.mpr ql), if_neg (by decide), if_pos ql, fhI_e, show (1 : Int32) = nI 1 from rfl, nI_add, fcP_at (show fcL 72 = 1024 from rfl) (show (rl k G.L).length < 1024 by omega) (by omega), wq_some, fhK_l]
      refine ⟨fun j => if j = (rl k G.L).length then nI k else g j, ?_, fun j hj => ?_⟩
      · rw [fhI_IO (σ := fhU σ0 73 g) (t := 56) (a := 72 + 1) (Or.inl (by decide)), fhI_I, fhU_I, List.length_append, List.length_singleton]
      · rw [List.length_append, List.length_singleton] at hj
        (try dsimp only)
        by_cases qj : j = (rl k G.L).length
        · rw [if_pos qj, qj, getD_app2]
        · rw [if_neg qj, getD_app1 (by omega)]
          exact hgl j (by omega)
    · rw [decide_eq_false (fun z => ql (hkm.mp z)), if_pos (by decide), if_neg ql, wq_some, fhK_l]
      exact ⟨g, rfl, hgl⟩
  · rintro x ⟨g, rfl, hgl⟩
    (try dsimp only)
    unfold f_X6_restore_90
    rw [fhI_o (show 39 ≠ 56 by decide), fhU_o (show 39 ≠ 73 by decide), hpl 39 (by decide) (by decide), h11, if_pos (nI_le (Nat.le_refl _) (by omega)), wq_bind]
    have e1 : ∀ t, t ≠ 93 → t ≠ 56 → t ≠ 73 → ∀ j, (fhI (fhU σ0 73 g) 56 8 (nI (rl W.N G.L).length)).1 t j = σ.1 t j := fun t a b c j => by rw [fhI_o b, fhU_o c, hpl t a b]
    have hrw2 : rwF W (fhI (fhU σ0 73 g) 56 8 (nI (rl W.N G.L).length)) := ⟨by rw [e1 39 (by decide) (by decide) (by decide)]; exact hrw.1, fun r i a b => by rw [e1 43 (by decide) (by decide) (by decide)]; exact hrw.2.1 r i a b, fun r i a b => by rw [e1 45 (by decide) (by decide) (by decide)]; exact hrw.2.2 r i a b⟩
    have hz2 : psF (fhI (fhU σ0 73 g) 56 8 (nI (rl W.N G.L).length)) := fun j hj => by rw [e1 49 (by decide) (by decide) (by decide)]; exact hz j hj
    refine wq_mono (c_settle hW hrw2 hz2 (fun r hr => rl_lt r hr) (by omega) fhI_e (fun k hk => by rw [fhI_o (show 73 ≠ 56 by decide), fhU_e]; exact hgl k hk)) (fun s z => ?_)
    obtain ⟨t, rfl, ht⟩ := z
    rw [wq_some, fhK_r]
    have f1 : ∀ a j, a ≠ 57 → a ≠ 75 → (fhI (fhU (fhI (fhU σ0 73 g) 56 8 (nI (rl W.N G.L).length)) 75 t) 57 3 0).1 a j = (fhI (fhU σ0 73 g) 56 8 (nI (rl W.N G.L).length)).1 a j := fun a j x y => by rw [fhI_o x, fhU_o y]
    refine ⟨rfl, ⟨?_, ?_, ?_, fun k hk => ?_, fun r hr => ?_⟩, ?_, ?_, ?_, ?_, ?_⟩
    · rw [f1 56 _ (by decide) (by decide), fhI_e]
    · rw [f1 56 _ (by decide) (by decide), fhI_s (by decide), fhU_o (by decide)]; exact hg9
    · rw [f1 56 _ (by decide) (by decide), fhI_s (by decide), fhU_o (by decide)]; exact hg10
    · rw [f1 73 _ (by decide) (by decide), fhI_o (by decide), fhU_e]; exact hgl k hk
    · rw [fhI_o (by decide), fhU_e]; exact ht r hr
    · exact fhI_e
    · rw [f1 93 _ (by decide) (by decide), fhI_o (by decide), fhU_o (by decide)]; exact hj1
    · rw [f1 93 _ (by decide) (by decide), fhI_o (by decide), fhU_o (by decide)]; exact hj3
    · rw [f1 93 _ (by decide) (by decide), fhI_o (by decide), fhU_o (by decide)]; exact hj4
    · exact fpl_I (fpl_U (fpl_I (fpl_U hfp (Or.inl (Or.inr (Or.inr (Or.inl rfl))))) (Or.inl (Or.inl rfl))) (Or.inl (Or.inr (Or.inr (Or.inr rfl))))) (Or.inl (Or.inr (Or.inl rfl)))
/-- the next thing told -/
theorem c_write {σ : fhM} {b : Nat} {H : List kE} (h : rngF b H σ) (hb : H.length ≤ b + 400) (hH : H.length < 2 ^ 30) (e : kE) : ∃ t, f_X6_write (nI e.1) (nI e.2.1) (nI e.2.2.1) (nI e.2.2.2) σ = fhI (fhU σ 95 t) 93 1 (nI (H.length + 1)) ∧ rngF b (H ++ [e]) (fhI (fhU σ 95 t) 93 1 (nI (H.length + 1))) := by
  obtain ⟨h1, h2⟩ := h
  have hand : nI H.length &&& (511 : Int32) = nI (H.length % 512) := by
    rw [show (511 : Int32) = nI 511 from rfl, ph_and, show H.length &&& 511 = H.length % 512 from Nat.and_two_pow_sub_one_eq_mod H.length 9]
  have hm : H.length % 512 < 512 := Nat.mod_lt _ (by decide)
  have E : f_X6_write (nI e.1) (nI e.2.1) (nI e.2.2.1) (nI e.2.2.2) σ = fhI (fhU σ 95 (fun j => if j = 4 * (H.length % 512) + 3 then nI e.2.2.2 else if j = 4 * (H.length % 512) + 2 then nI e.2.2.1 else if j = 4 * (H.length % 512) + 1 then nI e.2.1 else if j = 4 * (H.length % 512) then nI e.1 else σ.1 95 j)) 93 1 (nI (H.length + 1)) := by
    unfold f_X6_write
    simp only [h1, hand]
    rw [show (4 : Int32) = nI 4 from rfl, pk_mul, show (1 : Int32) = nI 1 from rfl, show (2 : Int32) = nI 2 from rfl, show (3 : Int32) = nI 3 from rfl, nI_add, nI_add, nI_add, cp94 (by omega), cp94 (by omega), cp94 (by omega), cp94 (by omega), fhI_U (t := 95) (σ := σ), fhU_I, fhU_I, fhU_I, nI_add]
  refine ⟨_, E, ?_⟩
  · refine ⟨by rw [fhI_e, List.length_append, List.length_singleton], fun k x hk hbk => ?_⟩
    by_cases q : k < H.length
    · rw [List.getElem?_append_left q] at hk
      obtain ⟨a1, a2, a3, a4⟩ := h2 k x hk hbk
      have hne : k % 512 ≠ H.length % 512 := by omega
      rw [fhI_o (by decide), fhI_o (by decide), fhI_o (by decide), fhI_o (by decide), fhU_e, fhU_e, fhU_e, fhU_e]
      (try dsimp only)
      refine ⟨?_, ?_, ?_, ?_⟩
      · rw [if_neg (by omega), if_neg (by omega), if_neg (by omega), if_neg (by omega)]; exact a1
      · rw [if_neg (by omega), if_neg (by omega), if_neg (by omega), if_neg (by omega)]; exact a2
      · rw [if_neg (by omega), if_neg (by omega), if_neg (by omega), if_neg (by omega)]; exact a3
      · rw [if_neg (by omega), if_neg (by omega), if_neg (by omega), if_neg (by omega)]; exact a4
    · have hkl : k = H.length := by
        have := List.getElem?_eq_some_iff.mp hk
        obtain ⟨hlt, _⟩ := this
        rw [List.length_append, List.length_singleton] at hlt
        omega
      rw [hkl, List.getElem?_append_right (Nat.le_refl _), Nat.sub_self] at hk
      have hx : e = x := by
        have : some e = some x := hk
        cases this; rfl
      rw [hkl, ← hx, fhI_o (by decide), fhI_o (by decide), fhI_o (by decide), fhI_o (by decide), fhU_e, fhU_e, fhU_e, fhU_e]
      (try dsimp only)
      refine ⟨?_, ?_, ?_, ?_⟩
      · rw [if_neg (by omega), if_neg (by omega), if_neg (by omega), if_pos rfl]
      · rw [if_neg (by omega), if_neg (by omega), if_pos rfl]
      · rw [if_neg (by omega), if_pos rfl]
      · rw [if_pos rfl]
