/-! ACTIONS, the reference: rounds by chance -/
def fry (σ s : fhM) : Prop := (∀ t j, ¬ aDm t j → s.1 t j = σ.1 t j) ∧ (∀ t j, ¬ (t = 0 ∧ j = 73) → s.2.1 t j = σ.2.1 t j) ∧ s.2.2 = σ.2.2
theorem fry_tr {a b c : fhM} (h1 : fry a b) (h2 : fry b c) : fry a c := ⟨fun t j x => by rw [h2.1 t j x, h1.1 t j x], fun t j x => by rw [h2.2.1 t j x, h1.2.1 t j x], by rw [h2.2.2, h1.2.2]⟩
theorem fry_f {a b : fhM} (h : fr aDm a b) : fry a b := ⟨h.2, fun t j _ => by rw [h.1], by rw [h.1]⟩
theorem fry_J {a : fhM} {x : Int64} : fry a (fhJ a 0 73 x) := ⟨fun _ _ _ => rfl, fun t j h => by rw [fhJ_r, if_neg h], rfl⟩
section
variable {W : gW} {G : gG} {S : List gG} {σ : fhM}
theorem m_one (hW : wOK W) {S2 : List gG} (hg : mGm W G S2 σ) (hw : G.w ∈ rl W.N G.L) (hi : lin W G.L) {sl c s k v : Nat} (hsl : σ.1 29 9 = nI sl) (hsl2 : sl ≤ 100) (hs : s < 2147483648) (h73 : σ.2.1 0 73 = lN s) (hk : k < v) (hv : v < 2 ^ 31) : wq (f_X12_chance_47 (nI v) (nI c) (nI k) σ) (fun y => ∃ s1, y = Sum.inl (nI (cs1 W sl (c, s, G)).1, nI (k + 1), s1) ∧ mGm W (cs1 W sl (c, s, G)).2.2 S2 s1 ∧ s1.2.1 0 73 = lN (cs1 W sl (c, s, G)).2.1 ∧ fry σ s1) := by
  have hg5 := hW.1
  have hr : nx s / 64 % 100 < 100 := Nat.mod_lt _ (by decide)
  have z3 : mGm W G S2 (fhJ σ 0 73 (lN (nx s))) := mGm_1 hg rfl
  unfold f_X12_chance_47 f_X12_chance_99 fhlet f_X12_guestMany
  rw [if_neg (nI_ge hk hv), show (100 : Int32) = nI 100 from rfl, m_draw h73 hs (by decide) (by decide), wq_bind, wq_some]
  dsimp only
  rw [show (fhJ σ 0 73 (lN (nx s))).1 29 9 = nI sl from hsl]
  unfold cs1
  dsimp only
  by_cases q : sl ≤ nx s / 64 % 100
  · rw [if_pos (nI_le q (by omega)), if_pos (Or.inl q), wq_bind, show (31 : Int32) = nI (mkM none) from rfl]
    refine wq_mono (m_rgo hW z3 hw hi (mk := mkM none) (by decide)) (fun r y => ?_)
    rw [wq_some, nI_1]
    have y2 := y.2.1
    rw [gRnd_mk hW G none] at y2
    exact ⟨r.2, rfl, y2, by rw [y.2.2.1, fhJ_r, if_pos ⟨rfl, rfl⟩], fry_tr fry_J (fry_f y.2.2)⟩
  by_cases q0 : W.g = 0
  · rw [if_neg (nI_ge (by omega) (by omega)), if_pos (Or.inr q0), z3.1.1.2.1, if_pos (show nI W.g ≤ 0 from by rw [q0]; decide), wq_bind, show (31 : Int32) = nI (mkM none) from rfl]
    refine wq_mono (m_rgo hW z3 hw hi (mk := mkM none) (by decide)) (fun r y => ?_)
    rw [wq_some, nI_1]
    have y2 := y.2.1
    rw [gRnd_mk hW G none] at y2
    exact ⟨r.2, rfl, y2, by rw [y.2.2.1, fhJ_r, if_pos ⟨rfl, rfl⟩], fry_tr fry_J (fry_f y.2.2)⟩
  · have hgp : 0 < W.g := by omega
    have hlt : nx (nx s) / 64 % W.g < W.g := Nat.mod_lt _ hgp
    have e73 : (fhJ σ 0 73 (lN (nx s))).2.1 0 73 = lN (nx s) := by rw [fhJ_r, if_pos ⟨rfl, rfl⟩]
    rw [if_neg (nI_ge (by omega) (by omega)), if_neg (c := sl ≤ nx s / 64 % 100 ∨ W.g = 0) (fun z => z.elim q q0), z3.1.1.2.1, if_neg (show ¬ nI W.g ≤ 0 from by rw [show (0 : Int32) = nI 0 from rfl]; exact nI_ge hgp (by omega)), m_draw e73 (nx_lt s) hgp (by omega), wq_bind, wq_some]
    have z4 : mGm W G S2 (fhJ (fhJ σ 0 73 (lN (nx s))) 0 73 (lN (nx (nx s)))) := mGm_1 z3 rfl
    have hmk : (31 : Int32) &&& (((1 : Int32) <<< (nI (nx (nx s) / 64 % W.g) &&& 31)) ^^^ (-1 : Int32)) = nI (mkM (some (nx (nx s) / 64 % W.g))) := by
      rw [ph_shl1 (by omega), show (31 : Int32) = nI 31 from rfl, ph_andn 31 (by decide) _ (by omega)]
      rfl
    have hml : mkM (some (nx (nx s) / 64 % W.g)) < 1024 := by
      have : 31 &&& (31 ^^^ 2 ^ (nx (nx s) / 64 % W.g)) ≤ 31 := Nat.and_le_left
      show 31 &&& (31 ^^^ 2 ^ (nx (nx s) / 64 % W.g)) < 1024
      omega
    dsimp only
    rw [hmk, wq_bind]
    refine wq_mono (m_rgo hW z4 hw hi hml) (fun r y => ?_)
    rw [wq_some, nI_1, nI_1]
    have y2 := y.2.1
    rw [gRnd_mk hW G (some (nx (nx s) / 64 % W.g))] at y2
    exact ⟨r.2, rfl, y2, by rw [y.2.2.1, fhJ_r, if_pos ⟨rfl, rfl⟩], fry_tr fry_J (fry_tr fry_J (fry_f y.2.2))⟩
end
