/-! THE CLASS'S GAME -/
def gmF (W : gW) (L : Nat → Bool) (w0 rd : Nat) (σ : fhM) : Prop :=
  σ.1 56 8 = nI (rl W.N L).length ∧ σ.1 56 9 = nI w0 ∧ σ.1 56 10 = nI rd ∧ (∀ k, k < (rl W.N L).length → σ.1 73 k = nI ((rl W.N L).getD k 0)) ∧ ∀ r, r ∈ rl W.N L → σ.1 75 r = nI (kb W (rl W.N L) r)
def psF (σ : fhM) : Prop := ∀ j, j < 1024 → σ.1 49 j = 0
def gD4 (t : Nat) : Prop := t = 56 ∨ t = 57 ∨ t = 73 ∨ t = 75
theorem rl_lt {n : Nat} {L : Nat → Bool} : ∀ r ∈ rl n L, r < n := fun r hr => (rl_mem.mp hr).1
theorem gm_ls {W : gW} (hW : wOK W) {l : List Nat} (hl : ∀ r ∈ l, r < W.N) (hn : l.length ≤ 1024) {σ : fhM} (h : ∀ k, k < l.length → σ.1 73 k = nI (l.getD k 0)) : lsF W 72 0 l σ := ⟨hl, by omega, fun k hk => by rw [Nat.zero_add, cg72 (by omega)]; exact h k hk⟩
theorem c_settle {W : gW} (hW : wOK W) {l : List Nat} {σ : fhM} (hrw : rwF W σ) (hz : psF σ) (hl : ∀ r ∈ l, r < W.N) (hn : l.length ≤ 1024) (h8 : σ.1 56 8 = nI l.length) (h73 : ∀ k, k < l.length → σ.1 73 k = nI (l.getD k 0)) : wq (f_X4_settle σ) (fun s => ∃ t, s = fhI (fhU σ 75 t) 57 3 0 ∧ ∀ r ∈ l, t r = nI (kb W l r)) := by
  unfold f_X4_settle f_X0_forget
  rw [h8, wq_bind, ph_0]
  have h := c_know hW (kp := 74) hrw (gm_ls hW hl hn h73) hz rfl (by decide) (by decide) (by decide) (by decide) (by decide) (by decide)
  rw [Nat.zero_add] at h
  refine wq_mono h (fun s z => ?_)
  obtain ⟨t, rfl, z1, z2⟩ := z
  rw [wq_let, wq_some]
  exact ⟨t, rfl, z1⟩
/-- left are all rows, worn is one -/
theorem c_begin {W : gW} (hW : wOK W) {σ : fhM} (htb : tbF W W.N σ) (hz : psF σ) (row : Nat) : wq (f_X4_begin (nI row) σ) (fun s => gmF W W.al row 0 s ∧ s.1 57 3 = 0 ∧ fpl gD4 σ s) := by
  have hN10 := hW.2.1
  have hll := rl_len W.N W.al
  unfold f_X4_begin
  refine wq_for (R := fun k x => ∃ g, x = (nI k, fhU σ 73 g) ∧ ∀ j, j < k → g j = nI ((rl W.N W.al).getD j 0)) 0 (rl W.N W.al).length (Nat.zero_le _) ?_ ?_ ⟨σ.1 73, by rw [fhU_id (fun _ => rfl)]; rfl, fun j hj => absurd hj (Nat.not_lt_zero _)⟩
  · rintro k x - hk ⟨g, rfl, hg⟩
    (try dsimp only)
    unfold f_X4_begin_2
    rw [fhU_o (by decide), htb.2.2.2.2.1, if_neg (nI_ge hk (by omega)), cg54 (by omega), fhU_o (by decide), htb.2.2.2.2.2.2.2.2.2.2.2 k hk, cp72 (by omega), fhU_I, nI_1, wq_some, fhK_l]
    refine ⟨_, rfl, fun j hj => ?_⟩
    (try dsimp only)
    by_cases q : j = k
    · rw [if_pos q, q]
    · rw [if_neg q]; exact hg j (by omega)
  · rintro x ⟨g, rfl, hg⟩
    (try dsimp only)
    unfold f_X4_begin_2
    rw [fhU_o (by decide), htb.2.2.2.2.1, if_pos (nI_le (Nat.le_refl _) (by omega)), wq_bind]
    have hrw : rwF W (fhI (fhI (fhI (fhU σ 73 g) 56 8 (nI (rl W.N W.al).length)) 56 10 (0 : Int32)) 56 9 (nI row)) := by
      obtain ⟨a, b, c⟩ := tbF_rw htb
      refine ⟨?_, fun r i h1 h2 => ?_, fun r i h1 h2 => ?_⟩
      · rw [fhI_o (by decide), fhI_o (by decide), fhI_o (by decide), fhU_o (by decide)]; exact a
      · rw [fhI_o (by decide), fhI_o (by decide), fhI_o (by decide), fhU_o (by decide)]; exact b r i h1 h2
      · rw [fhI_o (by decide), fhI_o (by decide), fhI_o (by decide), fhU_o (by decide)]; exact c r i h1 h2
    refine wq_mono (c_settle hW (l := rl W.N W.al) hrw (fun j hj => ?_) rl_lt (by omega) (by rw [fhI_s (by decide), fhI_s (by decide), fhI_e]) (fun k hk => ?_)) (fun s z => ?_)
    · rw [fhI_o (by decide), fhI_o (by decide), fhI_o (by decide), fhU_o (by decide)]; exact hz j hj
    · rw [fhI_o (by decide), fhI_o (by decide), fhI_o (by decide), fhU_e]; exact hg k hk
    · obtain ⟨t, rfl, ht⟩ := z
      rw [wq_some, fhK_r]
      refine ⟨⟨?_, ?_, ?_, fun k hk => ?_, fun r hr => ?_⟩, by rw [fhI_e], ?_⟩
      · rw [fhI_o (by decide), fhU_o (by decide), fhI_s (by decide), fhI_s (by decide), fhI_e]
      · rw [fhI_o (by decide), fhU_o (by decide), fhI_e]
      · rw [fhI_o (by decide), fhU_o (by decide), fhI_s (by decide), fhI_e]; rfl
      · rw [fhI_o (by decide), fhU_o (by decide), fhI_o (by decide), fhI_o (by decide), fhI_o (by decide), fhU_e]; exact hg k hk
      · rw [fhI_o (by decide), fhU_e]; exact ht r hr
      · refine fpl_I (fpl_U (fpl_I (fpl_I (fpl_I (fpl_U fpl_rf ?_) ?_) ?_) ?_) ?_) ?_
        all_goals (unfold gD4; omega)
/-- kept are those alike -/
def kpt (P L : Nat → Bool) : Nat → Bool := fun r => P r && L r
theorem kpt_f (n : Nat) (P L : Nat → Bool) : (rl n L).filter P = rl n (kpt P L) := by
  unfold rl kpt
  rw [List.filter_filter]
def alk (T : Nat → Nat) (mask w0 : Nat) : Nat → Bool := fun r => decide (T r &&& mask = T w0 &&& mask)
theorem filt_t {P : Nat → Bool} {x : Nat} (h : P x = true) : [x].filter P = [x] := by simp [h]
theorem filt_f {P : Nat → Bool} {x : Nat} (h : P x = false) : [x].filter P = [] := by simp [h]
theorem getD_app1 {l : List Nat} {x j : Nat} (h : j < l.length) : (l ++ [x]).getD j 0 = l.getD j 0 := by
  rw [List.getD_eq_getElem?_getD, List.getD_eq_getElem?_getD, List.getElem?_append_left h]
theorem getD_app2 {l : List Nat} {x : Nat} : (l ++ [x]).getD l.length 0 = x := by
  rw [List.getD_eq_getElem?_getD, List.getElem?_append_right (Nat.le_refl _), Nat.sub_self]
  rfl
theorem c_keepAlike {W : gW} (hW : wOK W) {L : Nat → Bool} {w0 rd tb mask : Nat} {T : Nat → Nat} {σ : fhM} (hrw : rwF W σ) (hz : psF σ) (hg : gmF W L w0 rd σ) (hw0 : w0 ∈ rl W.N L) (htb : fcL tb = 1024) (ht : ∀ r, r ∈ rl W.N L → σ.1 (tb + 1) r = nI (T r) ∧ T r < 1024) (hm : mask < 1024) (n1 : tb + 1 ≠ 73) (n2 : tb + 1 ≠ 56) :
    wq (f_X4_keepAlike tb (nI mask) σ) (fun s => gmF W (kpt (alk T mask w0) L) w0 rd s ∧ s.1 57 3 = 0 ∧ fpl gD4 σ s) := by
  have hN10 := hW.2.1
  obtain ⟨h8, h9, h10, h73, h75⟩ := hg
  have hll := rl_len W.N L
  have G : ∀ {s : fhM} {k : Nat}, k < 1024 → fcG s tb (nI k) = s.1 (tb + 1) k := fun h => fcG_at htb h (by omega)
  have hwN := (rl_mem.mp hw0).1
  have le : ∀ r, r ∈ rl W.N L → T r &&& mask < 1024 := fun r hr => by
    have : T r &&& mask ≤ mask := Nat.and_le_right
    omega
  unfold f_X4_keepAlike
  rw [h9, G (by omega), (ht w0 hw0).1, ph_and]
  refine wq_for (R := fun k x => ∃ g, x = (nI (((rl W.N L).take k).filter (alk T mask w0)).length, nI k, fhU σ 73 g) ∧ (∀ j, k ≤ j → g j = σ.1 73 j) ∧ ∀ j, j < (((rl W.N L).take k).filter (alk T mask w0)).length → g j = nI ((((rl W.N L).take k).filter (alk T mask w0)).getD j 0)) 0 (rl W.N L).length (Nat.zero_le _) ?_ ?_ ⟨σ.1 73, by rw [fhU_id (fun _ => rfl)]; rfl, fun j _ => rfl, fun j hj => absurd hj (Nat.not_lt_zero _)⟩
  · rintro k x - hk ⟨g, rfl, g1, g2⟩
    (try dsimp only)
    unfold f_X4_keepAlike_17 f_X4_keepAlike_63
    have hxm := getD_mem hk
    have hxN := rl_lt _ hxm
    have hlen : (((rl W.N L).take k).filter (alk T mask w0)).length ≤ k := by
      have h1 := List.length_filter_le (alk T mask w0) ((rl W.N L).take k)
      rw [List.length_take] at h1
      omega
    have hts : ((rl W.N L).take (k + 1)).filter (alk T mask w0) = ((rl W.N L).take k).filter (alk T mask w0) ++ [(rl W.N L).getD k 0].filter (alk T mask w0) := by rw [take_s hk, List.filter_append]
    rw [fhU_o (by decide), h8, if_neg (nI_ge hk (by omega)), cg72 (by omega), fhU_e, g1 k (Nat.le_refl _), h73 k hk, G (by omega), fhU_o n1, (ht _ hxm).1, ph_and, nI_1 k]
    by_cases q : T ((rl W.N L).getD k 0) &&& mask = T w0 &&& mask
    · have qa : alk T mask w0 ((rl W.N L).getD k 0) = true := decide_eq_true q
      have e1 : [(rl W.N L).getD k 0].filter (alk T mask w0) = [(rl W.N L).getD k 0] := filt_t qa
      rw [if_pos (by rw [q]), cp72 (by omega), fhU_I, nI_1, wq_some, fhK_l]
      refine ⟨_, by rw [hts, e1, List.length_append, List.length_singleton], fun j hj => ?_, fun j hj => ?_⟩
      · (try dsimp only)
        rw [if_neg (by omega)]
        exact g1 j (by omega)
      · rw [hts, e1] at hj ⊢
        rw [List.length_append, List.length_singleton] at hj
        (try dsimp only)
        by_cases qj : j = (((rl W.N L).take k).filter (alk T mask w0)).length
        · rw [if_pos qj, qj, getD_app2]
        · rw [if_neg qj, g2 j (by omega), getD_app1 (by omega)]
    · have qa : alk T mask w0 ((rl W.N L).getD k 0) = false := decide_eq_false q
      have e1 : [(rl W.N L).getD k 0].filter (alk T mask w0) = [] := filt_f qa
      have a1 := le _ hxm
      have a2 := le _ hw0
      rw [if_neg (fun z => q ((nI_eq (by omega) (by omega)).mp z)), wq_some, fhK_l]
      exact ⟨g, by rw [hts, e1, List.append_nil], fun j hj => g1 j (by omega), by rw [hts, e1, List.append_nil]; exact g2⟩
  · rintro x ⟨g, rfl, g1, g2⟩
    (try dsimp only)
    unfold f_X4_keepAlike_17
    rw [List.take_length, kpt_f] at g2 ⊢
    have hl2 := rl_len W.N (kpt (alk T mask w0) L)
    rw [fhU_o (by decide), h8, if_pos (nI_le (Nat.le_refl _) (by omega)), wq_bind]
    have hrw1 : rwF W (fhI (fhU σ 73 g) 56 8 (nI (rl W.N (kpt (alk T mask w0) L)).length)) := by
      obtain ⟨a, b, c⟩ := hrw
      refine ⟨?_, fun r i h1 h2 => ?_, fun r i h1 h2 => ?_⟩
      · rw [fhI_o (by decide), fhU_o (by decide)]; exact a
      · rw [fhI_o (by decide), fhU_o (by decide)]; exact b r i h1 h2
      · rw [fhI_o (by decide), fhU_o (by decide)]; exact c r i h1 h2
    refine wq_mono (c_settle hW (l := rl W.N (kpt (alk T mask w0) L)) hrw1 (fun j hj => ?_) rl_lt (by omega) (by rw [fhI_e]) (fun k hk => ?_)) (fun s z => ?_)
    · rw [fhI_o (by decide), fhU_o (by decide)]; exact hz j hj
    · rw [fhI_o (by decide), fhU_e]; exact g2 k hk
    · obtain ⟨t, rfl, ht2⟩ := z
      rw [wq_some, fhK_r]
      refine ⟨⟨?_, ?_, ?_, fun k hk => ?_, fun r hr => ?_⟩, by rw [fhI_e], ?_⟩
      · rw [fhI_o (by decide), fhU_o (by decide), fhI_e]
      · rw [fhI_o (by decide), fhU_o (by decide), fhI_s (by decide), fhU_o (by decide)]; exact h9
      · rw [fhI_o (by decide), fhU_o (by decide), fhI_s (by decide), fhU_o (by decide)]; exact h10
      · rw [fhI_o (by decide), fhU_o (by decide), fhI_o (by decide), fhU_e]; exact g2 k hk
      · rw [fhI_o (by decide), fhU_e]; exact ht2 r hr
      · refine fpl_I (fpl_U (fpl_I (fpl_U fpl_rf ?_) ?_) ?_) ?_
        all_goals (unfold gD4; omega)
section
variable {W : gW} {L : Nat → Bool} {w0 rd : Nat} {σ : fhM}
theorem c_knowers (hW : wOK W) (hg : gmF W L w0 rd σ) (hw0 : w0 ∈ rl W.N L) : f_X4_knowers σ = nI (kb W (rl W.N L) w0) := by
  obtain ⟨h8, h9, h10, h73, h75⟩ := hg
  have hN10 := hW.2.1
  have hll := rl_len W.N L
  have hwN := rl_lt _ hw0
  have h0 : 0 < (rl W.N L).length := List.length_pos_of_mem hw0
  unfold f_X4_knowers
  rw [h8, h9, if_neg (nI_nle h0 (by omega)), cg74 (by omega)]
  exact h75 w0 hw0
theorem c_isRowOf (hW : wOK W) (hrw : rwF W σ) (h9 : σ.1 56 9 = nI w0) (hw0 : w0 < W.N) {r i : Nat} (hr : r < W.N) (hi : i < W.g) : (f_X4_isRowOf (nI i) (nI r) σ = true) = (W.vw r i = W.vw w0 i) := by
  have hN10 := hW.2.1
  have v1 := hW.2.2.2.2.2.1 r i hr
  have v2 := hW.2.2.2.2.2.1 w0 i hw0
  unfold f_X4_isRowOf
  rw [c_viewOf hW hrw hr hi, h9, c_viewOf hW hrw hw0 hi]
  by_cases q : W.vw r i = W.vw w0 i
  · rw [if_pos (by rw [q])]
    exact propext ⟨fun _ => q, fun _ => rfl⟩
  · rw [if_neg (fun z => q ((nI_eq (by omega) (by omega)).mp z))]
    exact propext ⟨fun z => (by cases z), fun z => absurd z q⟩
/-- along the list of those left: an accumulator of ints -/
theorem c_countRowsOf (hW : wOK W) (hrw : rwF W σ) (hg : gmF W L w0 rd σ) (hw0 : w0 < W.N) {i : Nat} (hi : i < W.g) : f_X4_countRowsOf (nI i) σ = some (nI (cnv W (rl W.N L) i (W.vw w0 i))) := by
  obtain ⟨h8, h9, h10, h73, h75⟩ := hg
  have hN10 := hW.2.1
  have hll := rl_len W.N L
  refine wq_eq ?_
  unfold f_X4_countRowsOf
  refine wq_for (R := fun k x => x = (nI (cnv W ((rl W.N L).take k) i (W.vw w0 i)), nI k)) 0 (rl W.N L).length (Nat.zero_le _) ?_ ?_ rfl
  · rintro k x - hk rfl
    (try dsimp only)
    unfold f_X4_countRowsOf_4 f_X4_countRowsOf_34
    have hxN := rl_lt _ (getD_mem hk)
    rw [h8, if_neg (nI_ge hk (by omega)), cg72 (by omega), h73 k hk, wq_some, fhK_l, nI_1 k, take_s hk, cnv_s]
    simp only [c_isRowOf hW hrw h9 hw0 hxN hi]
    by_cases q : W.vw ((rl W.N L).getD k 0) i = W.vw w0 i
    · rw [if_pos q, if_pos q, nI_1]
    · rw [if_neg q, if_neg q, ph_0, nI_add]
      rfl
  · rintro x rfl
    (try dsimp only)
    unfold f_X4_countRowsOf_4
    rw [h8, if_pos (nI_le (Nat.le_refl _) (by omega)), List.take_length, wq_some, fhK_r]
theorem c_marksHeld (hW : wOK W) (hrw : rwF W σ) (hg : gmF W L w0 rd σ) (hw0 : w0 < W.N) {i : Nat} (hi : i < W.g) : f_X4_marksHeld (nI i) σ = some (nI (msk W (rl W.N L) i (W.vw w0 i))) := by
  obtain ⟨h8, h9, h10, h73, h75⟩ := hg
  have hN10 := hW.2.1
  have hll := rl_len W.N L
  refine wq_eq ?_
  unfold f_X4_marksHeld
  refine wq_for (R := fun k x => x = (nI (msk W ((rl W.N L).take k) i (W.vw w0 i)), nI k)) 0 (rl W.N L).length (Nat.zero_le _) ?_ ?_ rfl
  · rintro k x - hk rfl
    (try dsimp only)
    unfold f_X4_marksHeld_4 f_X4_marksHeld_47
    have hxN := rl_lt _ (getD_mem hk)
    have hm := hW.2.2.2.2.1 _ i hxN
    rw [h8, if_neg (nI_ge hk (by omega)), cg72 (by omega), h73 k hk, c_markOf hW hrw hxN hi, ph_shl1 (by omega), ph_or, nI_1 k, take_s hk, msk_s]
    unfold fhlet
    simp only [c_isRowOf hW hrw h9 hw0 hxN hi]
    by_cases q : W.vw ((rl W.N L).getD k 0) i = W.vw w0 i
    · rw [if_pos q, if_pos q, wq_some, fhK_l]
    · rw [if_neg q, if_neg q, wq_some, fhK_l]
  · rintro x rfl
    (try dsimp only)
    unfold f_X4_marksHeld_4
    rw [h8, if_pos (nI_le (Nat.le_refl _) (by omega)), List.take_length, wq_some, fhK_r]
def cnP (l : List Nat) (P : Nat → Bool) : Nat := l.foldl (fun n r => if P r = true then n + 1 else n) 0
theorem cnP_s (l : List Nat) (x : Nat) (P : Nat → Bool) : cnP (l ++ [x]) P = if P x = true then cnP l P + 1 else cnP l P := by
  unfold cnP
  rw [List.foldl_append]
  rfl
theorem c_countAlike (hW : wOK W) (hg : gmF W L w0 rd σ) {tb mask : Nat} {T : Nat → Nat} (hw0 : w0 ∈ rl W.N L) (htb : fcL tb = 1024) (ht : ∀ r, r ∈ rl W.N L → σ.1 (tb + 1) r = nI (T r)) (hm : mask < 1024) : f_X4_countAlike tb (nI mask) σ = some (nI (cnP (rl W.N L) (alk T mask w0))) := by
  obtain ⟨h8, h9, h10, h73, h75⟩ := hg
  have hN10 := hW.2.1
  have hll := rl_len W.N L
  have hwN := rl_lt _ hw0
  have G : ∀ {s : fhM} {k : Nat}, k < 1024 → fcG s tb (nI k) = s.1 (tb + 1) k := fun h => fcG_at htb h (by omega)
  have le : ∀ x, x &&& mask < 1024 := fun x => by
    have : x &&& mask ≤ mask := Nat.and_le_right
    omega
  refine wq_eq ?_
  unfold f_X4_countAlike
  rw [h9, G (by omega), ht w0 hw0, ph_and]
  refine wq_for (R := fun k x => x = (nI (cnP ((rl W.N L).take k) (alk T mask w0)), nI k)) 0 (rl W.N L).length (Nat.zero_le _) ?_ ?_ rfl
  · rintro k x - hk rfl
    (try dsimp only)
    unfold f_X4_countAlike_17 f_X4_countAlike_52
    have hxm := getD_mem hk
    have hxN := rl_lt _ hxm
    have a1 := le (T ((rl W.N L).getD k 0))
    have a2 := le (T w0)
    rw [h8, if_neg (nI_ge hk (by omega)), cg72 (by omega), h73 k hk, G (by omega), ht _ hxm, ph_and, wq_some, fhK_l, nI_1 k, take_s hk, cnP_s]
    by_cases q : T ((rl W.N L).getD k 0) &&& mask = T w0 &&& mask
    · rw [if_pos (by rw [q]), if_pos (show alk T mask w0 _ = true from decide_eq_true q), nI_1]
    · rw [if_neg (fun z => q ((nI_eq (by omega) (by omega)).mp z)), if_neg (show ¬ alk T mask w0 _ = true from fun z => q (of_decide_eq_true z)), ph_0, nI_add]
      rfl
  · rintro x rfl
    (try dsimp only)
    unfold f_X4_countAlike_17
    rw [h8, if_pos (nI_le (Nat.le_refl _) (by omega)), List.take_length, wq_some, fhK_r]
end
