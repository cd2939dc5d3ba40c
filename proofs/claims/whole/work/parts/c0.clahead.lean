/-! THE CLASS LOOKS AHEAD -/
def isF (P : Nat → Prop) (f : Nat) : Prop := (f ≤ 20 ∧ P f ∧ ∀ j, j < f → ¬ P j) ∨ (f = 99 ∧ ∀ j, j ≤ 20 → ¬ P j)
def ahR (W : gW) (L : Nat → Bool) (w0 : Nat) (σ : fhM) : Prop := σ.1 57 3 = 1 ∧ (∀ i, i < W.g → ∃ f, σ.1 63 i = nI f ∧ isF (fun n => rdK W w0 L i n = true) f) ∧ ∃ f, σ.1 57 5 = nI f ∧ isF (fun n => rdL W w0 L (n + 1) = rdL W w0 L n) f
def ahF (W : gW) (L : Nat → Bool) (w0 : Nat) (σ : fhM) : Prop := σ.1 57 3 = 0 ∨ ahR W L w0 σ
def aD (t : Nat) : Prop := t = 57 ∨ t = 59 ∨ t = 61 ∨ t = 63
section
variable {W : gW} {L : Nat → Bool} {w0 rd : Nat}
theorem c_ahStart (hW : wOK W) {σ : fhM} (hg : gmF W L w0 rd σ) : wq (f_X0_start σ) (fun s => ∃ g u, s = fhI (fhU (fhU (fhI σ 57 2 (nI (rl W.N L).length)) 59 g) 63 u) 57 5 (99 : Int32) ∧ (∀ k, k < (rl W.N L).length → g k = nI ((rl W.N L).getD k 0)) ∧ ∀ i, i < 5 → u i = nI 99) := by
  obtain ⟨h8, h9, h10, h73, h75⟩ := hg
  have hN10 := hW.2.1
  have hll := rl_len W.N L
  unfold f_X0_start
  rw [h8]
  refine wq_for (R := fun k x => ∃ g, x = (nI k, fhU (fhI σ 57 2 (nI (rl W.N L).length)) 59 g) ∧ ∀ j, j < k → g j = nI ((rl W.N L).getD j 0)) 0 (rl W.N L).length (Nat.zero_le _) ?_ ?_ ⟨(fhI σ 57 2 (nI (rl W.N L).length)).1 59, by rw [fhU_id (fun _ => rfl)]; rfl, fun j hj => absurd hj (Nat.not_lt_zero _)⟩
  · rintro k x - hk ⟨g, rfl, hg⟩
    (try dsimp only)
    unfold f_X0_start_10
    rw [fhU_o (by decide), fhI_e, if_neg (nI_ge hk (by omega)), cg72 (by omega), fhU_o (by decide), fhI_o (by decide), h73 k hk, cp58 (by omega), fhU_I, nI_1, wq_some, fhK_l]
    refine ⟨_, rfl, fun j hj => ?_⟩
    (try dsimp only)
    by_cases q : j = k
    · rw [if_pos q, q]
    · rw [if_neg q]; exact hg j (by omega)
  · rintro x ⟨g, rfl, hg⟩
    (try dsimp only)
    unfold f_X0_start_10
    rw [fhU_o (by decide), fhI_e, if_pos (nI_le (Nat.le_refl _) (by omega)), wq_map]
    refine wq_for (R := fun k x => ∃ u, x = (nI k, fhU (fhU (fhI σ 57 2 (nI (rl W.N L).length)) 59 g) 63 u) ∧ ∀ j, j < k → u j = nI 99) 0 5 (Nat.zero_le _) ?_ ?_ ⟨(fhU (fhI σ 57 2 (nI (rl W.N L).length)) 59 g).1 63, by rw [fhU_id (fun _ => rfl)]; rfl, fun j hj => absurd hj (Nat.not_lt_zero _)⟩
    · rintro k x - hk ⟨u, rfl, hu⟩
      (try dsimp only)
      unfold f_X0_start_42
      rw [if_neg (show ¬ (5 : Int32) ≤ nI k from nI_ge (b := 5) hk (by decide)), cp62 hk, fhU_I, nI_1, wq_some, fhK_l]
      refine ⟨_, rfl, fun j hj => ?_⟩
      (try dsimp only)
      by_cases q : j = k
      · rw [if_pos q]; rfl
      · rw [if_neg q]; exact hu j (by omega)
    · rintro x ⟨u, rfl, hu⟩
      (try dsimp only)
      unfold f_X0_start_42
      rw [if_pos (show (5 : Int32) ≤ nI 5 by decide), wq_some, fhK_r, fhK_r]
      exact ⟨g, u, rfl, hg, hu⟩
theorem alk31 {T : Nat → Nat} {w0 r : Nat} (h : ∀ x, T x < 32) : alk T 31 w0 r = decide (T r = T w0) := by
  have e : ∀ x, x < 32 → x &&& 31 = x := by decide
  unfold alk
  rw [e _ (h r), e _ (h w0)]
/-- those stay who know the same -/
theorem c_shrink (hW : wOK W) {σ : fhM} {l : List Nat} (hl : ∀ r ∈ l, r < W.N) (hn : l.length ≤ 1024) {T : Nat → Nat} (h2 : σ.1 57 2 = nI l.length) (h59 : ∀ k, k < l.length → σ.1 59 k = nI (l.getD k 0)) (h61 : ∀ r ∈ l, σ.1 61 r = nI (T r)) {b : Nat} (hT : ∀ r, T r < 32) (hb : b < 32) :
    wq (f_X0_shrinkTo (nI b) σ) (fun r => r.1 = decide ((l.filter (fun r => decide (T r = b))).length < l.length) ∧ ∃ g, r.2 = fhI (fhU σ 59 g) 57 2 (nI (l.filter (fun r => decide (T r = b))).length) ∧ ∀ k, k < (l.filter (fun r => decide (T r = b))).length → g k = nI ((l.filter (fun r => decide (T r = b))).getD k 0)) := by
  have hN10 := hW.2.1
  unfold f_X0_shrinkTo
  refine wq_for (R := fun k x => ∃ g, x = (nI ((l.take k).filter (fun r => decide (T r = b))).length, nI k, fhU σ 59 g) ∧ (∀ j, k ≤ j → g j = σ.1 59 j) ∧ ∀ j, j < ((l.take k).filter (fun r => decide (T r = b))).length → g j = nI (((l.take k).filter (fun r => decide (T r = b))).getD j 0)) 0 l.length (Nat.zero_le _) ?_ ?_ ⟨σ.1 59, by rw [fhU_id (fun _ => rfl)]; rfl, fun j _ => rfl, fun j hj => absurd hj (Nat.not_lt_zero _)⟩
  · rintro k x - hk ⟨g, rfl, g1, g2⟩
    (try dsimp only)
    unfold f_X0_shrinkTo_4 f_X0_shrinkTo_48
    have hxm := getD_mem hk
    have hxN := hl _ hxm
    have hlen : ((l.take k).filter (fun r => decide (T r = b))).length ≤ k := by
      have h1 := List.length_filter_le (fun r => decide (T r = b)) (l.take k)
      rw [List.length_take] at h1
      omega
    have hts : (l.take (k + 1)).filter (fun r => decide (T r = b)) = (l.take k).filter (fun r => decide (T r = b)) ++ [l.getD k 0].filter (fun r => decide (T r = b)) := by rw [take_s hk, List.filter_append]
    have hT1 := hT (l.getD k 0)
    rw [fhU_o (by decide), h2, if_neg (nI_ge hk (by omega)), cg58 (by omega), fhU_e, g1 k (Nat.le_refl _), h59 k hk, cg60 (by omega), fhU_o (by decide), h61 _ hxm, nI_1 k]
    by_cases q : T (l.getD k 0) = b
    · have e1 : [l.getD k 0].filter (fun r => decide (T r = b)) = [l.getD k 0] := filt_t (decide_eq_true q)
      rw [if_pos (by rw [q]), cp58 (by omega), fhU_I, nI_1, wq_some, fhK_l]
      refine ⟨_, by rw [hts, e1, List.length_append, List.length_singleton], fun j hj => ?_, fun j hj => ?_⟩
      · (try dsimp only)
        rw [if_neg (by omega)]
        exact g1 j (by omega)
      · rw [hts, e1] at hj ⊢
        rw [List.length_append, List.length_singleton] at hj
        (try dsimp only)
        by_cases qj : j = ((l.take k).filter (fun r => decide (T r = b))).length
        · rw [if_pos qj, qj, getD_app2]
        · rw [if_neg qj, g2 j (by omega), getD_app1 (by omega)]
    · have e1 : [l.getD k 0].filter (fun r => decide (T r = b)) = [] := filt_f (decide_eq_false q)
      rw [if_neg (fun z => q ((nI_eq (by omega) (by omega)).mp z)), wq_some, fhK_l]
      exact ⟨g, by rw [hts, e1, List.append_nil], fun j hj => g1 j (by omega), by rw [hts, e1, List.append_nil]; exact g2⟩
  · rintro x ⟨g, rfl, g1, g2⟩
    (try dsimp only)
    unfold f_X0_shrinkTo_4 f_X0_shrinkTo_67
    rw [List.take_length] at g2 ⊢
    have hle := List.length_filter_le (fun r => decide (T r = b)) l
    rw [fhU_o (by decide), h2, if_pos (nI_le (Nat.le_refl _) (by omega)), wq_map, wq_some, fhK_r]
    refine ⟨?_, g, rfl, g2⟩
    dsimp only
    by_cases q : (l.filter (fun r => decide (T r = b))).length < l.length
    · rw [if_neg (nI_ge q (by omega)), decide_eq_true q]
    · rw [if_pos (nI_le (by omega) (by omega)), decide_eq_false q]
/-- behind n rounds -/
def ahN (W : gW) (L : Nat → Bool) (w0 : Nat) (n : Nat) (s : fhM) : Prop :=
  s.1 57 3 = 1 ∧ s.1 57 2 = nI (rdL W w0 L n) ∧ (∀ k, k < rdL W w0 L n → s.1 59 k = nI ((rl W.N (itr W w0 L n)).getD k 0)) ∧
  (∀ i, i < W.g → ∃ f, s.1 63 i = nI f ∧ ((f < n ∧ rdK W w0 L i f = true ∧ ∀ j, j < f → ¬ rdK W w0 L i j = true) ∨ (f = 99 ∧ ∀ j, j < n → ¬ rdK W w0 L i j = true)))
theorem ah_fin (hW : wOK W) (hw0 : w0 ∈ rl W.N L) {n : Nat} (hn : n ≤ 21) {s : fhM} (h : ahN W L w0 n s) (hall : n = 21 ∨ ∃ m, n = m + 1 ∧ rdL W w0 L (m + 1) = rdL W w0 L m) : ∀ i, i < W.g → ∃ f, s.1 63 i = nI f ∧ isF (fun n => rdK W w0 L i n = true) f := by
  intro i hi
  obtain ⟨f, h1, h2⟩ := h.2.2.2 i hi
  refine ⟨f, h1, ?_⟩
  rcases h2 with ⟨a, b, c⟩ | ⟨a, b⟩
  · exact Or.inl ⟨by omega, b, c⟩
  · refine Or.inr ⟨a, fun j hj => ?_⟩
    show ¬ rdK W w0 L i j = true
    rcases Nat.lt_or_ge j n with q | q
    · exact b j q
    · rcases hall with rfl | ⟨m, rfl, hm⟩
      · omega
      · have := rdK_rest hm i (j - m)
        rw [show m + (j - m) = j by omega] at this
        rw [this]
        exact b m (Nat.lt_succ_self m)
theorem c_prepareA (hW : wOK W) {σ : fhM} (hrw : rwF W σ) (hz : psF σ) (hg : gmF W L w0 rd σ) (hw0 : w0 ∈ rl W.N L) (hah : ahF W L w0 σ) : wq (f_X0_prepare σ) (fun s => ahR W L w0 s ∧ fpl aD σ s) := by
  have hN10 := hW.2.1
  have hg5 := hW.1
  have hwN := rl_lt _ hw0
  unfold f_X0_prepare
  rcases hah with h0 | hR
  · rw [if_pos h0, wq_bind]
    have hg1 : gmF W L w0 rd (fhI σ 57 3 (1 : Int32)) := by
      obtain ⟨h8, h9, h10, h73, h75⟩ := hg
      exact ⟨by rw [fhI_o (by decide)]; exact h8, by rw [fhI_o (by decide)]; exact h9, by rw [fhI_o (by decide)]; exact h10, fun k hk => by rw [fhI_o (by decide)]; exact h73 k hk, fun r hr => by rw [fhI_o (by decide)]; exact h75 r hr⟩
    refine wq_mono (c_ahStart hW hg1) (fun s0 z => ?_)
    obtain ⟨g, u, rfl, hg2, hu⟩ := z
    have f0 : fpl aD σ (fhI (fhU (fhU (fhI (fhI σ 57 3 (1 : Int32)) 57 2 (nI (rl W.N L).length)) 59 g) 63 u) 57 5 (99 : Int32)) := by
      refine fpl_I (fpl_U (fpl_U (fpl_I (fpl_I fpl_rf ?_) ?_) ?_) ?_) ?_
      all_goals (unfold aD; omega)
    have a0 : ahN W L w0 0 (fhI (fhU (fhU (fhI (fhI σ 57 3 (1 : Int32)) 57 2 (nI (rl W.N L).length)) 59 g) 63 u) 57 5 (99 : Int32)) := by
      refine ⟨?_, ?_, fun k hk => ?_, fun i hi => ⟨99, ?_, Or.inr ⟨rfl, fun j hj => absurd hj (Nat.not_lt_zero _)⟩⟩⟩
      · rw [fhI_s (by decide), fhU_o (by decide), fhU_o (by decide), fhI_s (by decide), fhI_e]
      · rw [fhI_s (by decide), fhU_o (by decide), fhU_o (by decide), fhI_e]; rfl
      · rw [fhI_o (by decide), fhU_o (by decide), fhU_e]; exact hg2 k hk
      · rw [fhI_o (by decide), fhU_e]; exact hu i (by omega)
    have a5 : (fhI (fhU (fhU (fhI (fhI σ 57 3 (1 : Int32)) 57 2 (nI (rl W.N L).length)) 59 g) 63 u) 57 5 (99 : Int32)).1 57 5 = nI 99 := by rw [fhI_e]; rfl
    generalize (fhI (fhU (fhU (fhI (fhI σ 57 3 (1 : Int32)) 57 2 (nI (rl W.N L).length)) 59 g) 63 u) 57 5 (99 : Int32)) = s0 at *
    refine wq_for (R := fun n x => ∃ s, x = (nI n, s) ∧ fpl aD σ s ∧ ahN W L w0 n s ∧ ((s.1 57 5 = nI 99 ∧ ∀ j, j < n → ¬ rdL W w0 L (j + 1) = rdL W w0 L j) ∨ ∃ m, n = m + 1 ∧ s.1 57 5 = nI m ∧ rdL W w0 L (m + 1) = rdL W w0 L m ∧ ∀ j, j < m → ¬ rdL W w0 L (j + 1) = rdL W w0 L j)) 0 21 (Nat.zero_le _) ?_ ?_ ⟨s0, rfl, f0, a0, Or.inl ⟨a5, fun j hj => absurd hj (Nat.not_lt_zero _)⟩⟩
    · rintro n x - hn ⟨s, rfl, hf, ha, h5⟩
      (try dsimp only)
      unfold f_X0_prepare_20
      rw [if_neg (show ¬ (20 : Int32) < nI n from nI_nlt (a := 20) (by omega) (by omega))]
      rcases h5 with ⟨h5, hno⟩ | ⟨m, rfl, h5, hm, hno⟩
      · have ha' := ha
        obtain ⟨a1, a2, a3, a4⟩ := ha'
        have hrw1 : rwF W s := by
          obtain ⟨b1, b2, b3⟩ := hrw
          exact ⟨by rw [(hf.1 _ _ (by unfold aD; omega)).1]; exact b1, fun r i x y => by rw [(hf.1 _ _ (by unfold aD; omega)).1]; exact b2 r i x y, fun r i x y => by rw [(hf.1 _ _ (by unfold aD; omega)).1]; exact b3 r i x y⟩
        have hlN := rl_len W.N (itr W w0 L n)
        have hls : lsF W 58 0 (rl W.N (itr W w0 L n)) s := ⟨rl_lt, by omega, fun k hk => by rw [Nat.zero_add, cg58 (by omega)]; exact a3 k hk⟩
        rw [h5, if_pos (show nI 99 = (99 : Int32) from rfl), a2, wq_bind, ph_0]
        have hkn := c_know hW (lp := 58) (kp := 60) hrw1 hls (fun j hj => by rw [(hf.1 49 j (by unfold aD; omega)).1]; exact hz j hj) rfl (by decide) (by decide) (by decide) (by decide) (by decide) (by decide)
        rw [Nat.zero_add] at hkn
        refine wq_mono hkn (fun s1 z => ?_)
        obtain ⟨t, rfl, k1, k2⟩ := z
        have hwn := itr_w hw0 n
        have hbits : fcG (fhU s (60 + 1) t) 60 ((fhU s (60 + 1) t).1 56 9) = nI (kb W (rl W.N (itr W w0 L n)) w0) := by
          rw [fhU_o (by decide), (hf.1 56 9 (by unfold aD; omega)).1, hg.2.1, cg60 (by omega), fhU_e, k1 w0 hwn]
        rw [hbits]
        have hkb := kb_lt hW (rl W.N (itr W w0 L n)) w0
        have hbit : ∀ i, i < W.g → (kb W (rl W.N (itr W w0 L n)) w0).testBit i = rdK W w0 L i n := fun i hi => by
          unfold kb
          rw [kbN_bit, decide_eq_true hi, Bool.true_and]
          rfl
        refine wq_for (R := fun i x => ∃ u, x = (nI i, fhU (fhU s (60 + 1) t) 63 u) ∧ (∀ a, a < W.g → ∃ f, u a = nI f ∧ ((f < (if a < i then n + 1 else n) ∧ rdK W w0 L a f = true ∧ ∀ j, j < f → ¬ rdK W w0 L a j = true) ∨ (f = 99 ∧ ∀ j, j < (if a < i then n + 1 else n) → ¬ rdK W w0 L a j = true)))) 0 W.g (Nat.zero_le _) ?_ ?_ ⟨(fhU s (60 + 1) t).1 63, by rw [fhU_id (fun _ => rfl)], fun a ha => ?_⟩
        · rintro i x - hi ⟨u, rfl, hu⟩
          (try dsimp only)
          unfold f_X0_prepare_70 f_X0_prepare_113
          rw [fhU_o (by decide), fhU_o (by decide), hrw1.1, if_neg (nI_ge hi (by omega)), nI_1 i]
          have keep : ∀ a, a < W.g → a ≠ i → ∃ f, u a = nI f ∧ ((f < (if a < i + 1 then n + 1 else n) ∧ rdK W w0 L a f = true ∧ ∀ j, j < f → ¬ rdK W w0 L a j = true) ∨ (f = 99 ∧ ∀ j, j < (if a < i + 1 then n + 1 else n) → ¬ rdK W w0 L a j = true)) := by
            intro a ha hai
            obtain ⟨f, e1, e2⟩ := hu a ha
            refine ⟨f, e1, ?_⟩
            by_cases q : a < i
            · rw [if_pos q] at e2
              rw [if_pos (show a < i + 1 by omega)]
              exact e2
            · rw [if_neg q] at e2
              rw [if_neg (show ¬ a < i + 1 by omega)]
              exact e2
          obtain ⟨f, e1, e2⟩ := hu i hi
          rw [if_neg (Nat.lt_irrefl i)] at e2
          by_cases q : rdK W w0 L i n = true
          · rw [if_neg (fun z => by rw [ph_bit0 (by omega) (by omega), hbit i hi, q] at z; cases z), cg62 (by omega), fhU_e, e1, cp62 (by omega), fhU_I, wq_some, fhK_l]
            refine ⟨_, rfl, fun a ha => ?_⟩
            (try dsimp only)
            by_cases qa : a = i
            · subst qa
              rw [if_pos rfl]
              unfold f_J9_min_7cf53
              rcases e2 with ⟨b1, b2, b3⟩ | ⟨b1, b2⟩
              · rw [if_neg (nI_nlt (by omega) (by omega))]
                exact ⟨f, rfl, Or.inl ⟨by rw [if_pos (Nat.lt_succ_self a)]; omega, b2, b3⟩⟩
              · rw [if_pos (nI_lt (by omega) (by omega))]
                exact ⟨n, rfl, Or.inl ⟨by rw [if_pos (Nat.lt_succ_self a)]; omega, q, b2⟩⟩
            · rw [if_neg qa]
              exact keep a ha qa
          · have q' : rdK W w0 L i n = false := by
              cases e : rdK W w0 L i n with
              | true => exact absurd e q
              | false => rfl
            rw [if_pos ((ph_bit0 (by omega) (by omega)).mpr (by rw [hbit i hi]; exact q')), wq_some, fhK_l]
            refine ⟨u, rfl, fun a ha => ?_⟩
            by_cases qa : a = i
            · subst qa
              rw [if_pos (Nat.lt_succ_self a)]
              refine ⟨f, e1, ?_⟩
              rcases e2 with ⟨b1, b2, b3⟩ | ⟨b1, b2⟩
              · exact Or.inl ⟨by omega, b2, b3⟩
              · refine Or.inr ⟨b1, fun j hj => ?_⟩
                by_cases qj : j = n
                · rw [qj]; exact q
                · exact b2 j (by omega)
            · exact keep a ha qa
        · rintro x ⟨u, rfl, hu⟩
          (try dsimp only)
          unfold f_X0_prepare_70 f_X0_prepare_132
          rw [fhU_o (by decide), fhU_o (by decide), hrw1.1, if_pos (nI_le (Nat.le_refl _) (by omega)), wq_bind]
          have hsh := c_shrink hW (σ := fhU (fhU s (60 + 1) t) 63 u) (l := rl W.N (itr W w0 L n)) rl_lt (by omega) (T := kb W (rl W.N (itr W w0 L n))) (by rw [fhU_o (by decide), fhU_o (by decide)]; exact a2) (fun k hk => by rw [fhU_o (by decide), fhU_o (by decide)]; exact a3 k hk) (fun r hr => by rw [fhU_o (by decide), fhU_e]; exact k1 r hr) (kb_lt hW _) hkb
          refine wq_mono hsh (fun r z => ?_)
          obtain ⟨r1, r2⟩ := r
          obtain ⟨z1, g3, z2, z3⟩ := z
          dsimp only at z1 z2 ⊢
          have hfl : (rl W.N (itr W w0 L n)).filter (fun r => decide (kb W (rl W.N (itr W w0 L n)) r = kb W (rl W.N (itr W w0 L n)) w0)) = rl W.N (itr W w0 L (n + 1)) := by
            show _ = rl W.N (nxt W w0 (itr W w0 L n))
            unfold nxt
            rw [← kpt_f]
            exact List.filter_congr (fun r _ => (alk31 (kb_lt hW _)).symm)
          rw [hfl] at z1 z2 z3
          subst z2
          have hle := List.length_filter_le (fun r => decide (kb W (rl W.N (itr W w0 L n)) r = kb W (rl W.N (itr W w0 L n)) w0)) (rl W.N (itr W w0 L n))
          rw [hfl] at hle
          have f1 : fpl aD σ (fhI (fhU (fhU (fhU s (60 + 1) t) 63 u) 59 g3) 57 2 (nI (rl W.N (itr W w0 L (n + 1))).length)) := by
            refine fpl_I (fpl_U (fpl_U (fpl_U hf ?_) ?_) ?_) ?_
            all_goals (unfold aD; omega)
          have an : ahN W L w0 (n + 1) (fhI (fhU (fhU (fhU s (60 + 1) t) 63 u) 59 g3) 57 2 (nI (rl W.N (itr W w0 L (n + 1))).length)) := by
            refine ⟨?_, ?_, fun k hk => ?_, fun i hi => ?_⟩
            · rw [fhI_s (by decide), fhU_o (by decide), fhU_o (by decide), fhU_o (by decide)]; exact a1
            · rw [fhI_e]; rfl
            · rw [fhI_o (by decide), fhU_e]; exact z3 k hk
            · rw [fhI_o (by decide), fhU_o (by decide), fhU_e]
              obtain ⟨f, e1, e2⟩ := hu i hi
              rw [if_pos hi] at e2
              exact ⟨f, e1, e2⟩
          rw [z1]
          by_cases q : rdL W w0 L (n + 1) = rdL W w0 L n
          · rw [decide_eq_false (show ¬ (rl W.N (itr W w0 L (n + 1))).length < (rl W.N (itr W w0 L n)).length by unfold rdL at q; omega), if_neg (show ¬ false = true by decide), wq_map, wq_some, fhK_r, fhK_l, nI_1]
            refine ⟨_, rfl, fpl_I f1 (by unfold aD; omega), ?_, Or.inr ⟨n, rfl, by rw [fhI_e], q, hno⟩⟩
            obtain ⟨c1, c2, c3, c4⟩ := an
            exact ⟨by rw [fhI_s (by decide)]; exact c1, by rw [fhI_s (by decide)]; exact c2, fun k hk => by rw [fhI_o (by decide)]; exact c3 k hk, fun i hi => by rw [fhI_o (by decide)]; exact c4 i hi⟩
          · rw [decide_eq_true (show (rl W.N (itr W w0 L (n + 1))).length < (rl W.N (itr W w0 L n)).length by unfold rdL at q; omega), if_pos rfl, wq_map, wq_some, fhK_r, fhK_l, nI_1]
            refine ⟨_, rfl, f1, an, Or.inl ⟨?_, fun j hj => ?_⟩⟩
            · rw [fhI_s (by decide), fhU_o (by decide), fhU_o (by decide), fhU_o (by decide)]; exact h5
            · by_cases qj : j = n
              · rw [qj]; exact q
              · exact hno j (by omega)
        · rw [fhU_o (by decide), if_neg (Nat.not_lt_zero a)]
          exact a4 a ha
      · rw [h5, if_neg (show ¬ nI m = (99 : Int32) from nIn (a := m) (b := 99) (by omega) (by omega) (by decide)), wq_some, fhK_r]
        exact ⟨⟨ha.1, ah_fin hW hw0 (by omega) ha (Or.inr ⟨m, rfl, hm⟩), m, h5, Or.inl ⟨by omega, hm, hno⟩⟩, hf⟩
    · rintro x ⟨s, rfl, hf, ha, h5⟩
      (try dsimp only)
      unfold f_X0_prepare_20
      rw [if_pos (show (20 : Int32) < nI 21 by decide), wq_some, fhK_r]
      refine ⟨⟨ha.1, ah_fin hW hw0 (Nat.le_refl _) ha (Or.inl rfl), ?_⟩, hf⟩
      rcases h5 with ⟨h5, hno⟩ | ⟨m, hm1, h5, hm, hno⟩
      · exact ⟨99, h5, Or.inr ⟨rfl, fun j hj => hno j (by omega)⟩⟩
      · exact ⟨m, h5, Or.inl ⟨by omega, hm, hno⟩⟩
  · rw [hR.1, if_neg (show ¬ (1 : Int32) = 0 by decide), wq_some]
    exact ⟨hR, fpl_rf⟩
end
