/-! QUESTIONS: ask in the class -/
noncomputable def fQ (W : gW) (G : gG) (c : gC) (i : Nat) : Int := evc true W.g (lfQ W (rl W.N G.L) G.w G.rd i) (lkQ W (rl W.N G.L) G.w i) c
def akD (t : Nat) : Prop := aqD t ∨ t = 10 ∨ t = 12 ∨ t = 14
def cAskR (W : gW) (G : gG) (T : tT) (σ : fhM) (r : Int64 × fhM) : Prop := (match sQ T with
  | .inl e => r.1 = -1000000000000000 ∧ r.2.1 0 17 = nI e.1 ∧ r.2.1 0 18 = nI e.2
  | .inr x => r.1 = lI (ansQ x.1 (fQ W G x.2) W.g) ∧ r.2.1 0 17 = 0 ∧ r.2.1 0 18 = -1) ∧ r.2.1 0 1 = 0 ∧ (∀ t j, ¬ akD t → t ≠ 0 → r.2.1 t j = σ.1 t j) ∧ (∀ j, j ≠ 1 → j ≠ 17 → j ≠ 18 → r.2.1 0 j = σ.1 0 j) ∧ (∀ t j, ¬ aqD t → r.2.2.2 t j = σ.2.2 t j) ∧ r.2.2.1 = σ.2.1
section
variable {W : gW} {G : gG} {S : List gG} {T : tT}
theorem fQ_run {c : gC} {q j : Nat} (h : rd T true [] rdN (if q < 3 then 0 else 3) 0 1 = some (.inr (j, c))) (i : Nat) : run true W.g (lfQ W (rl W.N G.L) G.w G.rd i) (lkQ W (rl W.N G.L) G.w i) c [] = some [fQ W G c i] := by
  by_cases hq : q < 3
  · rw [if_pos hq] at h
    exact (evc_T (Nat.zero_le _) h).2
  · rw [if_neg hq] at h
    exact evc_S (Nat.zero_le _) h
theorem c_ask (hW : wOK W) (hT : tOK T) {σ : fhM} (hg : cGm W G S σ) (hw : 0 < W.g → G.w ∈ rl W.N G.L) (hr : G.rd ≤ 999) (h1 : σ.1 0 1 = nI T.2) (hx : cX T σ) (h8 : ¬ σ.1 0 8 = 0) (hP : fhiP (σ.2.2 0 6) = true) : wq (f_X11_ask σ) (fun r => cAskR W G T σ r) := by
  obtain ⟨htb, hz, hgm, -, -⟩ := hg
  obtain ⟨m, hm1, hm2, hm3⟩ := kd_end T
  have hm : tend T m := ⟨hm1, hm2, hm3⟩
  unfold f_X11_ask f_X11_takeTape fhlet
  (try dsimp only)
  rw [if_neg (by rw [fhI_s (by decide)]; exact h8), h1, wq_bind]
  have hx1 : cX T (fhI (fhI σ 0 1 (0 : Int32)) 6 1 (0 : Int32)) := fun i hi => by rw [fhI_o (by decide), fhI_o (by decide)]; exact hx i hi
  refine wq_mono (c_open hT hm hx1) ?_
  rintro s ⟨hc, -, -, f1⟩
  have e1 : ∀ t j, ¬ cD t j → s.1 t j = (fhI (fhI σ 0 1 (0 : Int32)) 6 1 (0 : Int32)).1 t j := fun t j h => f1.2 t j h
  have s6 : s.2.2 0 6 = σ.2.2 0 6 := by rw [f1.1]; rfl
  rw [s6, if_pos hP, wq_bind]
  refine wq_mono (c_readQ hT hm hP hc (by rw [e1 6 1 (by unfold cD; omega), fhI_e])) ?_
  rintro ⟨v, q⟩ ⟨hQ, f2⟩
  unfold cQr at hQ
  unfold f_X11_noteFault f_X11_noteFault_33 cAskR
  (try dsimp only at hQ f2 ⊢)
  have e2 : ∀ t j, ¬ aqD t → q.1 t j = s.1 t j ∧ q.2.2 t j = s.2.2 t j := fun t j h => f2.1 t j h
  have eo : ∀ t j, ¬ aqD t → t ≠ 0 → q.1 t j = σ.1 t j := fun t j h h0 => by
    rw [(e2 t j h).1, e1 t j (by unfold cD; unfold aqD at h; omega), fhI_o (by unfold aqD at h; omega), fhI_o h0]
  have e0 : ∀ j, q.1 0 j = (fhI σ 0 1 (0 : Int32)).1 0 j := fun j => by
    rw [(e2 0 j (by unfold aqD; omega)).1, e1 0 j (by unfold cD; omega), fhI_o (by decide)]
  have er : ∀ t j, ¬ aqD t → q.2.2 t j = σ.2.2 t j := fun t j c => by
    rw [(e2 t j c).2, f1.1]
    rfl
  have e21 : q.2.1 = σ.2.1 := by rw [f2.2, f1.1]; rfl
  cases hs : sQ T with
  | inl e =>
    rw [hs] at hQ
    have hn := cF_n hQ
    rw [if_neg hn, fhI_s (by decide), fhI_e, if_neg hn, wq_some]
    (try dsimp only)
    refine ⟨⟨rfl, ?_, ?_⟩, ?_, fun t j h h0 => ?_, fun j a b c => ?_, er, e21⟩
    · rw [fhI_s (by decide), fhI_e]; exact hQ.1
    · rw [fhI_e]; exact hQ.2.1
    · rw [fhI_s (by decide), fhI_s (by decide), e0, fhI_e]
    · rw [fhI_o h0, fhI_o h0]
      exact eo t j (fun z => h (Or.inl z)) h0
    · rw [fhI_s c, fhI_s b, e0, fhI_s a]
  | inr x =>
    rw [hs] at hQ
    obtain ⟨q1, q2, q3, q4, j0, q5⟩ := hQ
    rw [if_pos q1, q1, fhI_s (by decide), fhI_e, if_pos rfl, q2, wq_bind]
    have eo3 : ∀ t j, ¬ aqD t → t ≠ 0 → (fhI (fhI q 0 17 (0 : Int32)) 0 18 (-1 : Int32)).1 t j = σ.1 t j := fun t j h h0 => by
      rw [fhI_o h0, fhI_o h0]
      exact eo t j h h0
    have a3 := tbF_rw htb
    have hrw : rwF W (fhI (fhI q 0 17 (0 : Int32)) 0 18 (-1 : Int32)) := ⟨by rw [eo3 39 9 (by unfold aqD; omega) (by decide)]; exact a3.1, fun r i a b => by rw [eo3 43 _ (by unfold aqD; omega) (by decide)]; exact a3.2.1 r i a b, fun r i a b => by rw [eo3 45 _ (by unfold aqD; omega) (by decide)]; exact a3.2.2 r i a b⟩
    have hg2 : gmF W G.L G.w G.rd (fhI (fhI q 0 17 (0 : Int32)) 0 18 (-1 : Int32)) := ⟨by rw [eo3 56 _ (by unfold aqD; omega) (by decide)]; exact hgm.1, by rw [eo3 56 _ (by unfold aqD; omega) (by decide)]; exact hgm.2.1, by rw [eo3 56 _ (by unfold aqD; omega) (by decide)]; exact hgm.2.2.1, fun k hk => by rw [eo3 73 _ (by unfold aqD; omega) (by decide)]; exact hgm.2.2.2.1 k hk, fun r hr => by rw [eo3 75 _ (by unfold aqD; omega) (by decide)]; exact hgm.2.2.2.2 r hr⟩
    have hS : cS 6 x.2 (fhI (fhI q 0 17 (0 : Int32)) 0 18 (-1 : Int32)) := ⟨by rw [fhI_o (by decide), fhI_o (by decide)]; exact q4.1, q4.2.1, fun i c hi => by rw [fhI_o (by decide), fhI_o (by decide)]; exact q4.2.2 i c hi⟩
    refine wq_mono (c_answer hW hrw hg2 (fun i hi => by rw [eo3 51 _ (by unfold aqD; omega) (by decide)]; exact htb.2.2.2.2.2.2.1 i hi) hw hr hS (f := fQ W G x.2) (fun i _ => fQ_run q5 i) q3) ?_
    rintro ⟨v2, s2⟩ ⟨hv, t, h, gg, hs2⟩
    have hv : v2 = lI (ansQ x.1 (fQ W G x.2) W.g) := hv
    have hs2 : s2 = vsX (fhU (fhI (fhI q 0 17 (0 : Int32)) 0 18 (-1 : Int32)) 12 t) h gg := hs2
    rw [wq_some]
    (try dsimp only)
    rw [hs2]
    have z0 : ∀ j, (vsX (fhU (fhI (fhI q 0 17 (0 : Int32)) 0 18 (-1 : Int32)) 12 t) h gg).1 0 j = (fhI (fhI q 0 17 (0 : Int32)) 0 18 (-1 : Int32)).1 0 j := fun j => vsX_p (by decide) (by decide) (by decide)
    refine ⟨⟨hv, ?_, ?_⟩, ?_, fun t' j h' h0 => ?_, fun j a b c => ?_, er, e21⟩
    · rw [z0, fhI_s (by decide), fhI_e]
    · rw [z0, fhI_e]
    · rw [z0, fhI_s (by decide), fhI_s (by decide), e0, fhI_e]
    · have hd : t' ≠ 10 ∧ t' ≠ 12 ∧ t' ≠ 14 := ⟨fun z => h' (Or.inr (Or.inl z)), fun z => h' (Or.inr (Or.inr (Or.inl z))), fun z => h' (Or.inr (Or.inr (Or.inr z)))⟩
      rw [vsX_p hd.1 hd.2.1 hd.2.2, fhI_o h0, fhI_o h0]
      exact eo t' j (fun z => h' (Or.inl z)) h0
    · rw [z0, fhI_s c, fhI_s b, e0, fhI_s a]
end
