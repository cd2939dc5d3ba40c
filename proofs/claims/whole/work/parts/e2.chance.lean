/-! ACTIONS: rounds by chance -/
def cs1 (W : gW) (sl : Nat) (x : Nat × Nat × gG) : Nat × Nat × gG := if sl ≤ nx x.2.1 / 64 % 100 ∨ W.g = 0 then (x.1, nx x.2.1, gRnd W x.2.2 (mkR W none)) else (x.1 + 1, nx (nx x.2.1), gRnd W x.2.2 (mkR W (some (nx (nx x.2.1) / 64 % W.g))))
def chs (W : gW) (sl : Nat) (x : Nat × Nat × gG) : Nat → Nat × Nat × gG
  | 0 => x
  | k + 1 => cs1 W sl (chs W sl x k)
theorem cs1_g (W : gW) (sl : Nat) (x : Nat × Nat × gG) : ∃ mk, (cs1 W sl x).2.2 = gRnd W x.2.2 mk ∧ (cs1 W sl x).1 ≤ x.1 + 1 ∧ (cs1 W sl x).2.1 < 2147483648 := by
  unfold cs1
  by_cases q : sl ≤ nx x.2.1 / 64 % 100 ∨ W.g = 0
  · rw [if_pos q]; exact ⟨_, rfl, Nat.le_succ _, nx_lt _⟩
  · rw [if_neg q]; exact ⟨_, rfl, Nat.le_refl _, nx_lt _⟩
/-- what rounds leave as it was -/
def chI (W : gW) (G G2 : gG) (k : Nat) : Prop := G2.rd = G.rd + k ∧ G2.w = G.w ∧ (∃ t, G2.H = G.H ++ t ∧ t.length = k) ∧ G2.w ∈ rl W.N G2.L ∧ ∀ r, G2.L r = true → G.L r = true
theorem chI_0 {W : gW} {G : gG} (h : G.w ∈ rl W.N G.L) : chI W G G 0 := ⟨rfl, rfl, ⟨[], (List.append_nil _).symm, rfl⟩, h, fun _ z => z⟩
theorem chI_s {W : gW} {G G2 : gG} {k mk : Nat} (h : chI W G G2 k) : chI W G (gRnd W G2 mk) (k + 1) := by
  obtain ⟨h1, h2, ⟨t, e, ht⟩, h4, h5⟩ := h
  refine ⟨?_, h2, ⟨t ++ [(0, 0, kb W (rl W.N G2.L) G2.w &&& mk, (rl W.N (kpt (alk (kb W (rl W.N G2.L)) mk G2.w) G2.L)).length)], ?_, by rw [List.length_append, ht]; rfl⟩, ?_, fun r hr => h5 r ?_⟩
  · show G2.rd + 1 = G.rd + (k + 1)
    omega
  · show G2.H ++ _ = _
    rw [e, List.append_assoc]
  · show G2.w ∈ rl W.N (kpt (alk (kb W (rl W.N G2.L)) mk G2.w) G2.L)
    obtain ⟨a, b⟩ := rl_mem.mp h4
    refine rl_mem.mpr ⟨a, ?_⟩
    unfold kpt alk
    rw [b, decide_eq_true rfl]
    rfl
  · have hr : kpt (alk (kb W (rl W.N G2.L)) mk G2.w) G2.L r = true := hr
    unfold kpt at hr
    rw [Bool.and_eq_true] at hr
    exact hr.2
theorem chs_I {W : gW} {sl : Nat} {x : Nat × Nat × gG} (h : x.2.2.w ∈ rl W.N x.2.2.L) : ∀ k, chI W x.2.2 (chs W sl x k).2.2 k ∧ (chs W sl x k).1 ≤ x.1 + k := by
  intro k
  induction k with
  | zero => exact ⟨chI_0 h, Nat.le_refl _⟩
  | succ k ih =>
    obtain ⟨mk, e1, e2, _⟩ := cs1_g W sl (chs W sl x k)
    refine ⟨?_, ?_⟩
    · show chI W x.2.2 (cs1 W sl (chs W sl x k)).2.2 (k + 1)
      rw [e1]
      exact chI_s ih.1
    · show (cs1 W sl (chs W sl x k)).1 ≤ x.1 + (k + 1)
      have := ih.2
      omega
section
variable {W : gW} {G : gG} {S : List gG} {σ : fhM}
theorem chI_c {G2 : gG} {k : Nat} (h : chI W G G2 k) (hk : k ≤ 20) (hc : chn G.H S) : chn G2.H (psh G S) := by
  obtain ⟨_, _, ⟨t, e, ht⟩, _, _⟩ := h
  exact ⟨⟨t, e, by omega⟩, chn_take 19 hc⟩
/-- the class plays one -/
theorem c_one (hW : wOK W) {S2 : List gG} (hg : cGm W G S2 σ) (hc : chn G.H S2) (hS : S2.length ≤ 20) (hne : S2 ≠ []) (hw : G.w ∈ rl W.N G.L) (hH : G.H.length < 2 ^ 30) {sl c s k v : Nat} (hP : fhiP (σ.2.2 0 6) = true) (hsl : σ.1 (σ.2.2 0 6) 13 = nI sl) (hsl2 : sl ≤ 100) (h16 : σ.1 0 16 = nI s) (hk : k < v) (hv : v < 2 ^ 31) : wq (f_X11_chance_54 (nI v) (nI c) (nI k) σ) (fun y => ∃ s1, y = Sum.inl (nI (cs1 W sl (c, s, G)).1, nI (k + 1), s1) ∧ cGm W (cs1 W sl (c, s, G)).2.2 S2 s1 ∧ s1.1 0 16 = nI (cs1 W sl (c, s, G)).2.1 ∧ fpx σ s1 ∧ s1.1 57 3 = 0) := by
  have hg5 := hW.1
  have n0 : ¬ aDc 0 := aDc_n (by decide)
  have hP15 : ∀ P, fhiP P = true → P ≠ 0 := fun P hP z => by rw [z] at hP; exact absurd hP (by decide)
  have hr : nx s / 64 % 100 < 100 := Nat.mod_lt _ (by decide)
  have e13 : ∀ x, (fhI σ 0 16 x).1 (σ.2.2 0 6) 13 = nI sl := fun x => by rw [fhI_o (hP15 _ hP)]; exact hsl
  have z3 : cGm W G S2 (fhI σ 0 16 (nI (nx s))) := cGm_c hg (fun t j ht => fhI_o ht)
  unfold f_X11_chance_54 f_X11_chance_104
  rw [if_neg (nI_ge hk hv), show (100 : Int32) = nI 100 from rfl, c_draw h16 (by decide) (by decide), wq_bind, wq_some, fhI_2]
  dsimp only
  rw [if_pos hP, e13]
  unfold cs1
  dsimp only
  have mv : ∀ {s2 s3 : fhM} {x : Int32}, s2 = fhI σ 0 16 x → fpl aDc s2 s3 → fpx σ s3 := fun {s2 s3 x} e f => by
    refine ⟨fun t j ht hx => ?_, by rw [f.2, e]; rfl⟩
    have ej : s2.1 t j = σ.1 t j := by rw [e, fhI_r, if_neg hx]
    exact ⟨by rw [(f.1 t j ht).1, ej], by rw [(f.1 t j ht).2, e]; rfl⟩
  by_cases q : sl ≤ nx s / 64 % 100
  · rw [if_pos (nI_le q (by omega)), if_pos (Or.inl q), wq_bind]
    refine wq_mono (c_playR (o := none) hW z3 hc hS hne hw hH (fun i hi => by cases hi)) (fun r y => ?_)
    rw [wq_some, nI_1]
    exact ⟨r.2, rfl, y.2.1, by rw [(y.2.2.1.1 0 16 n0).1, fhI_e], mv rfl y.2.2.1, y.2.2.2⟩
  by_cases q0 : W.g = 0
  · rw [if_neg (nI_ge (by omega) (by omega)), if_pos (Or.inr q0), z3.1.2.1, if_pos (show nI W.g ≤ 0 from by rw [q0]; decide), wq_bind]
    refine wq_mono (c_playR (o := none) hW z3 hc hS hne hw hH (fun i hi => by cases hi)) (fun r y => ?_)
    rw [wq_some, nI_1]
    exact ⟨r.2, rfl, y.2.1, by rw [(y.2.2.1.1 0 16 n0).1, fhI_e], mv rfl y.2.2.1, y.2.2.2⟩
  · have hgp : 0 < W.g := by omega
    have hlt : nx (nx s) / 64 % W.g < W.g := Nat.mod_lt _ hgp
    rw [if_neg (nI_ge (by omega) (by omega)), if_neg (c := sl ≤ nx s / 64 % 100 ∨ W.g = 0) (fun z => z.elim q q0), z3.1.2.1, if_neg (show ¬ nI W.g ≤ 0 from by rw [show (0 : Int32) = nI 0 from rfl]; exact nI_ge hgp (by omega)), c_draw fhI_e hgp (by omega), wq_bind, wq_some, fhI_I, wq_bind]
    have z4 : cGm W G S2 (fhI σ 0 16 (nI (nx (nx s)))) := cGm_c hg (fun t j ht => fhI_o ht)
    refine wq_mono (c_playR (o := some (nx (nx s) / 64 % W.g)) hW z4 hc hS hne hw hH (fun i hi => by cases hi; exact hlt)) (fun r y => ?_)
    rw [wq_some, nI_1, nI_1]
    exact ⟨r.2, rfl, y.2.1, by rw [(y.2.2.1.1 0 16 n0).1, fhI_e], mv rfl y.2.2.1, y.2.2.2⟩
end
