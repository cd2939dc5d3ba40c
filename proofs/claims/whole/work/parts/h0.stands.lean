/-! THE REFERENCE: a parlour stands -/
section
variable {p : fhPS} {S : List gG} {x : Nat}
def stM (p : fhPS) (s : fhM) : Prop := s.1 29 7 = nI p.ru.length ∧ s.1 29 9 = nI p.sl ∧ ∀ g l, p.nl[g]? = some l → s.2.1 30 (5 + g) = lN (e27 l)
def sgD (t j : Nat) : Prop := aDm t j ∨ (t = 0 ∧ j = 68)
def g00 : gG := (0, 0, fun _ => false, [])
theorem m_st128 {T : tT} {k0 : Nat} (ho : sOK T p k0) {σ : fhM} (hm : mtb (wOf p) σ) (h0 : σ.1 29 0 = nI p.m) (h1 : σ.1 29 1 = nI p.gs.length) (h31 : ∀ g x, p.gs[g]? = some x → σ.1 31 g = nI x.2) (hs : stkM S x σ) (h62 : σ.1 0 62 = 0) : wq (fhlp (fun x => f_X12_stands_128 x.1 x.2) ((0 : Int32), σ)) (fun s => mGm (wOf p) (0, wrn p, (wOf p).al, []) [] s ∧ s.1 0 68 = 0 ∧ fr sgD σ s) := by
  have hW := wOf_ok ho
  refine wq_for (R := fun k y => ∃ g, y = (nI k, fhU σ 44 g) ∧ ∀ j, j < k → g j = 0) 0 1187 (Nat.zero_le _) ?_ ?_ ⟨σ.1 44, by rw [fhU_id (fun _ => rfl)]; rfl, fun j hj => absurd hj (Nat.not_lt_zero _)⟩
  · rintro k y - hk ⟨g, rfl, hg⟩
    (try dsimp only)
    unfold f_X12_stands_128
    rw [show (1187 : Int32) = nI 1187 from rfl, if_neg (nI_ge hk (by omega)), if_pos (ph_in1 (by omega) (by omega)), ph_ix (by omega), fhU_I, nI_1, wq_some, fhK_l]
    refine ⟨_, rfl, fun j hj => ?_⟩
    (try dsimp only)
    by_cases q : j = k
    · rw [if_pos q]
    · rw [if_neg q]
      exact hg j (by omega)
  · rintro y ⟨g, rfl, hg⟩
    (try dsimp only)
    unfold f_X12_stands_128
    have hf0 : fr aDm σ (fhU σ 44 g) := fr_U fr_rf (fun j => by unfold aDm; omega)
    have hG : mGm (wOf p) g00 S (fhU σ 44 g) := by
      refine ⟨mtb_a hm hf0, ⟨?_, ?_, fun r hr => ?_, ?_, fun k e hk => ?_⟩, ⟨x, stkM_a hs (fun j => fhU_o (by decide)) (fhU_o (by decide)) (fhU_o (by decide))⟩, by rw [fhU_o (by decide)]; exact h62⟩
      · rw [fhU_e]; exact hg 0 (by decide)
      · rw [fhU_e]; exact hg 1 (by decide)
      · rw [fhU_e]; exact hg (2 + r) (by omega)
      · rw [fhU_e]; exact hg 1026 (by decide)
      · rw [show lst40 g00.H = [] from rfl, List.getElem?_nil] at hk; cases hk
    have hwr : f_X12_wornRow (fhU σ 44 g) = some (nI (wrn p)) := by
      obtain ⟨o1, o2, o3, o4, o5, o6, o7, o8, o9, o10, -⟩ := ho
      refine m_wornRow (m := p.m) (ws := p.gs.map Prod.snd) (by rw [List.length_map]; exact o5) o4 (by rw [fhU_o (by decide)]; exact h0) (by rw [fhU_o (by decide), List.length_map]; exact h1) (fun g x hx => ?_)
      rw [List.getElem?_map] at hx
      obtain ⟨y, hy, e⟩ := Option.map_eq_some_iff.mp hx
      rw [fhU_o (by decide), ← e]
      exact h31 g y hy
    rw [if_pos (show (1187 : Int32) ≤ nI 1187 by decide), hwr, wq_bind, wq_some, wq_bind]
    have hb := m_worn hW hG (row := wrn p)
    unfold f_X12_isWorn at hb
    rw [wq_bind] at hb
    refine wq_mono hb ?_
    intro s hs2
    rw [wq_some] at hs2
    obtain ⟨⟨b1, b2, ⟨x2, b3⟩, b4⟩, b5⟩ := hs2
    rw [wq_some, fhK_r]
    have hf1 : fr sgD σ (fhI (fhI s 0 71 (0 : Int32)) 0 68 (0 : Int32)) := fr_I (fr_I (fr_mo (fr_tr hf0 b5) (fun t j z => Or.inl z)) (Or.inl (by unfold aDm; omega))) (Or.inr ⟨rfl, rfl⟩)
    refine ⟨⟨?_, ?_, ⟨x2, ?_, b3.2.1, ?_, Nat.zero_le _, fun k G hk => ?_⟩, ?_⟩, fhI_e, hf1⟩
    · obtain ⟨⟨c1, c2, c3, c4⟩, c5, c6, c7, c8, c9⟩ := b1
      have e : ∀ t j, t ≠ 0 ∨ (j ≠ 68 ∧ j ≠ 71) → (fhI (fhI s 0 71 (0 : Int32)) 0 68 (0 : Int32)).1 t j = s.1 t j := fun t j h => by
        rw [fhI_r, if_neg (by omega), fhI_r, if_neg (by omega)]
      exact ⟨⟨by rw [e _ _ (by decide)]; exact c1, by rw [e _ _ (by decide)]; exact c2, by rw [e _ _ (by decide)]; exact c3, fun r i a b => by rw [e _ _ (Or.inl (by decide))]; exact c4 r i a b⟩, by rw [e _ _ (by decide)]; exact c5, fun r a => by rw [e _ _ (Or.inl (by decide))]; exact c6 r a, fun r a => by rw [e _ _ (Or.inl (by decide))]; exact c7 r a, fun r a => by rw [e _ _ (Or.inl (by decide))]; exact c8 r a, by rw [e _ _ (by decide)]; exact c9⟩
    · exact tbM_c b2 (fun j _ => by rw [fhI_o (by decide), fhI_o (by decide)])
    · rw [fhI_s (by decide), fhI_s (by decide)]; exact b3.1
    · rw [fhI_s (by decide), fhI_e]; rfl
    · rw [List.getElem?_nil] at hk; cases hk
    · rw [fhI_s (by decide), fhI_s (by decide)]; exact b4
end
