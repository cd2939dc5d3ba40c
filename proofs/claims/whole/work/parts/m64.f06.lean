set_option maxRecDepth 100000 in
set_option maxHeartbeats 4000000 in
theorem L_X8_failAtEnd_E {Γ : fhX} (hE : fhEok fhYF (fhEn Γ)) (hΓ : fhOk fhYF 8 cX8_failAtEnd 2 none Γ) (hd : 1 ≤ fhD Γ) (v1 : Int32)  (σ : fhM) (o : fhM) (h : f_X8_failAtEnd v1 σ = o) (hk : (fun o => fhRet Γ none o) o) : fhW fhYF Γ 0 [(0, .ref 3), (1, .int v1)] [] σ := by
  unfold f_X8_failAtEnd at h
  refine fhW.blk fhPF fhLL hΓ [(.aload_n 0, 0), (.iload_n 1, 0), (.aload_n 0, 0), (.getfield 20, 0)] (pc' := 6) (lv' := [(0, .ref 3), (1, .int v1)]) (st' := [.int (σ.1 3 3), .int v1, .ref 3]) (σ' := σ) (by decide +kernel) rfl rfl rfl ?_
  refine fhW.callv hΓ mvX8_fail ml_8_81 (t := 3) (ci := 8) (av := [.int v1, .int (σ.1 3 3)]) (rest := []) (r := none) (σ' := (f_X8_fail v1 (σ.1 3 3) σ)) (T_X8_fail (E := fhEn Γ) (d := fhD Γ - 1) hE (by omega) v1 (σ.1 3 3) σ) (by omega) (by decide +kernel) rfl rfl rfl (Nat.le_of_ble_eq_true rfl) rfl ?_
  show fhW fhYF Γ 9 [(0, .ref 3), (1, .int v1)] [] (f_X8_fail v1 (σ.1 3 3) σ)
  obtain ⟨q1, e1, h⟩ := fhlet_elim h
  rw [← e1]
  subst h
  exact fhW.vret hΓ (by decide +kernel) hk
set_option maxRecDepth 100000 in
theorem T_X8_failAtEnd {E : fhE} {d : Nat} (hE : fhEok fhYF E) (hd : 1 ≤ d) (v1 : Int32)  (σ : fhM) : fhC fhYF E d miX8_failAtEnd [.ref 3, .int v1] σ none (f_X8_failAtEnd v1 σ) := by
  refine fhC.of (y := yX8_failAtEnd) (cc := cX8_failAtEnd) (nL := 2) (ret := none) 8 rfl (by decide +kernel) (Nat.le_of_ble_eq_true rfl) ?_
  intro Γ hΓ hR hD hEn
  subst hD; subst hEn
  exact L_X8_failAtEnd_E hE hΓ hd v1  σ _ rfl hR
set_option maxRecDepth 100000 in
set_option maxHeartbeats 4000000 in
theorem L_X10_countKinds_29 {Γ : fhX} (hE : fhEok fhYF (fhEn Γ)) (hΓ : fhOk fhYF 10 cX10_countKinds 4 (some .int) Γ) (hd : 1 ≤ fhD Γ) (v1 : Int32) (v3 : Int32) (s0 : Int32) (s1 : Int32)  (σ : fhM) (o : (Int32 × Int32) ⊕ (Int32)) (h : f_X10_countKinds_29 v1 v3 s0 s1 σ = some o) (hk : (fhK (fun x => fhW fhYF Γ 4 [(0, .ref 10), (1, .int v1), (2, .int x.1), (3, .int x.2)] [] σ) (fun o => fhRet Γ (some (.int o)) σ)) o) : fhW fhYF Γ 29 [(0, .ref 10), (1, .int v1), (3, .int v3)] [.int s0, .int s1] σ := by
  unfold f_X10_countKinds_29 at h
  refine fhW.blk fhPF fhLL hΓ [(.iadd, 0), (.istore_n 2, 0), (.iinc 3 1, 1)] (pc' := 34) (lv' := [(3, .int (v3 + (1 : Int32))), (2, .int (s1 + s0)), (0, .ref 10), (1, .int v1)]) (st' := []) (σ' := σ) (by decide +kernel) rfl rfl rfl ?_
  refine fhW.goto hΓ (off := (-30)) (tgt := 4) (by decide +kernel) ?_
  refine fhW.sub (lv' := [(0, .ref 10), (1, .int v1), (2, .int (s1 + s0)), (3, .int (v3 + (1 : Int32)))]) [2, 3, 1, 0] rfl ?_
  have e9 := Option.some.inj h
  subst e9
  exact hk
set_option maxRecDepth 100000 in
set_option maxHeartbeats 4000000 in
theorem L_X10_countKinds_4 {Γ : fhX} (hE : fhEok fhYF (fhEn Γ)) (hΓ : fhOk fhYF 10 cX10_countKinds 4 (some .int) Γ) (hd : 1 ≤ fhD Γ) (v1 : Int32) (v2 : Int32) (v3 : Int32)  (σ : fhM) (o : (Int32 × Int32) ⊕ (Int32)) (h : f_X10_countKinds_4 v1 v2 v3 σ = some o) (hk : (fhK (fun x => fhW fhYF Γ 4 [(0, .ref 10), (1, .int v1), (2, .int x.1), (3, .int x.2)] [] σ) (fun o => fhRet Γ (some (.int o)) σ)) o) : fhW fhYF Γ 4 [(0, .ref 10), (1, .int v1), (2, .int v2), (3, .int v3)] [] σ := by
  unfold f_X10_countKinds_4 at h
  refine fhW.blk fhPF fhLL hΓ [(.iload_n 3, 0), (.iload_n 1, 0)] (pc' := 6) (lv' := [(0, .ref 10), (1, .int v1), (2, .int v2), (3, .int v3)]) (st' := [.int v1, .int v3]) (σ' := σ) (by decide +kernel) rfl rfl rfl ?_
  refine fhW.i_ge hΓ (tgt := 37) (show fhbk _ _ (.if_icmp .ge (31)) _ = true by decide +kernel) (fun hc => ?_) (fun hc => ?_)
  · rw [if_pos hc] at h
    refine fhW.blk fhPF fhLL hΓ [(.iload_n 2, 0)] (pc' := 38) (lv' := [(0, .ref 10), (1, .int v1), (2, .int v2), (3, .int v3)]) (st' := [.int v2]) (σ' := σ) (by decide +kernel) rfl rfl rfl ?_
    have e9 := Option.some.inj h
    subst e9
    exact fhW.iret hΓ (by decide +kernel) hk
  · rw [if_neg hc] at h
    refine fhW.blk fhPF fhLL hΓ [(.iload_n 2, 0), (.aload_n 0, 0), (.getfield 14, 0), (.bipush 15, 15), (.iload_n 3, 0), (.iadd, 0)] (pc' := 18) (lv' := [(0, .ref 10), (1, .int v1), (2, .int v2), (3, .int v3)]) (st' := [.int ((15 : Int32) + v3), .ref 11, .int v2]) (σ' := σ) (by decide +kernel) rfl rfl rfl ?_
    refine fhW.callv hΓ mvX2_get ml_10_30 (t := 11) (ci := 2) (av := [.int ((15 : Int32) + v3)]) (rest := [.int v2]) (r := (some (.int (fcG σ 11 ((15 : Int32) + v3))))) (σ' := σ) (T_X2_get (E := fhEn Γ) (d := fhD Γ - 1) hE (by omega) 11 ((15 : Int32) + v3) rfl σ) (by omega) (by decide +kernel) rfl rfl rfl (Nat.le_of_ble_eq_true rfl) rfl ?_
    show fhW fhYF Γ 21 [(0, .ref 10), (1, .int v1), (2, .int v2), (3, .int v3)] [.int (fcG σ 11 ((15 : Int32) + v3)), .int v2] σ
    refine fhW.z_le hΓ (tgt := 28) (show fhbk _ _ (.ifCond .le (7)) _ = true by decide +kernel) (fun hc => ?_) (fun hc => ?_)
    · simp only [if_pos hc] at h
      refine fhW.blk fhPF fhLL hΓ [(.iconst 0, 0)] (pc' := 29) (lv' := [(0, .ref 10), (1, .int v1), (2, .int v2), (3, .int v3)]) (st' := [.int (0 : Int32), .int v2]) (σ' := σ) (by decide +kernel) rfl rfl rfl ?_
      refine fhW.sub (lv' := [(0, .ref 10), (1, .int v1), (3, .int v3)]) [0, 1, 3] rfl ?_
      exact L_X10_countKinds_29 hE hΓ hd v1 v3 (0 : Int32) v2 σ _ h hk
    · simp only [if_neg hc] at h
      refine fhW.blk fhPF fhLL hΓ [(.iconst 1, 1)] (pc' := 25) (lv' := [(0, .ref 10), (1, .int v1), (2, .int v2), (3, .int v3)]) (st' := [.int (1 : Int32), .int v2]) (σ' := σ) (by decide +kernel) rfl rfl rfl ?_
      refine fhW.goto hΓ (off := 4) (tgt := 29) (by decide +kernel) ?_
      refine fhW.sub (lv' := [(0, .ref 10), (1, .int v1), (3, .int v3)]) [0, 1, 3] rfl ?_
      exact L_X10_countKinds_29 hE hΓ hd v1 v3 (1 : Int32) v2 σ _ h hk
set_option maxRecDepth 100000 in
set_option maxHeartbeats 4000000 in
theorem L_X10_countKinds_E {Γ : fhX} (hE : fhEok fhYF (fhEn Γ)) (hΓ : fhOk fhYF 10 cX10_countKinds 4 (some .int) Γ) (hd : 1 ≤ fhD Γ) (v1 : Int32)  (σ : fhM) (o : Int32) (h : f_X10_countKinds v1 σ = some o) (hk : (fun o => fhRet Γ (some (.int o)) σ) o) : fhW fhYF Γ 0 [(0, .ref 10), (1, .int v1)] [] σ := by
  unfold f_X10_countKinds at h
  refine fhW.blk fhPF fhLL hΓ [(.iconst 0, 0), (.istore_n 2, 0), (.iconst 0, 0), (.istore_n 3, 0)] (pc' := 4) (lv' := [(3, .int (0 : Int32)), (2, .int (0 : Int32)), (0, .ref 10), (1, .int v1)]) (st' := []) (σ' := σ) (by decide +kernel) rfl rfl rfl ?_
  refine fhW.sub (lv' := [(0, .ref 10), (1, .int v1), (2, .int (0 : Int32)), (3, .int (0 : Int32))]) [2, 3, 1, 0] rfl ?_
  exact fhlp_ok (W := (fun x => fhW fhYF Γ 4 [(0, .ref 10), (1, .int v1), (2, .int x.1), (3, .int x.2)] [] σ)) (B := (fun o => fhRet Γ (some (.int o)) σ)) (fun x o h hk => L_X10_countKinds_4 hE hΓ hd v1 x.1 x.2 σ o h hk) ((0 : Int32), (0 : Int32)) _ h hk
set_option maxRecDepth 100000 in
theorem T_X10_countKinds {E : fhE} {d : Nat} (hE : fhEok fhYF E) (hd : 1 ≤ d) (v1 : Int32)  (σ : fhM) {o : Int32} (h : f_X10_countKinds v1 σ = some o) : fhC fhYF E d miX10_countKinds [.ref 10, .int v1] σ (some (.int o)) σ := by
  refine fhC.of (y := yX10_countKinds) (cc := cX10_countKinds) (nL := 4) (ret := (some .int)) 10 rfl (by decide +kernel) (Nat.le_of_ble_eq_true rfl) ?_
  intro Γ hΓ hR hD hEn
  subst hD; subst hEn
  exact L_X10_countKinds_E hE hΓ hd v1  σ _ h hR
set_option maxRecDepth 100000 in
set_option maxHeartbeats 4000000 in
theorem L_X10_fillFromRow_120 {Γ : fhX} (hE : fhEok fhYF (fhEn Γ)) (hΓ : fhOk fhYF 10 cX10_fillFromRow 10 none Γ) (hd : 2 ≤ fhD Γ) (v2 : Int32) (v5 : Int32) (v6 : Int32) (v7 : Int32)  (σ : fhM) (o : fhM) (h : f_X10_fillFromRow_120 v2 v5 v6 v7 σ = some o) (hk : (fun o => fhRet Γ none o) o) : fhW fhYF Γ 120 [(0, .ref 10), (2, .int v2), (5, .int v5), (6, .int v6), (7, .int v7)] [] σ := by
  unfold f_X10_fillFromRow_120 at h
  refine fhW.blk fhPF fhLL hΓ [(.aload_n 0, 0), (.getfield 14, 0), (.iconst 5, 5), (.iload 5, 0)] (pc' := 127) (lv' := [(0, .ref 10), (2, .int v2), (5, .int v5), (6, .int v6), (7, .int v7)]) (st' := [.int v5, .int (5 : Int32), .ref 11]) (σ' := σ) (by decide +kernel) rfl rfl rfl ?_
  refine fhW.callv hΓ mvX2_put ml_10_26 (t := 11) (ci := 2) (av := [.int (5 : Int32), .int v5]) (rest := []) (r := none) (σ' := (fcP σ 11 (5 : Int32) v5)) (T_X2_put (E := fhEn Γ) (d := fhD Γ - 1) hE (by omega) 11 (5 : Int32) v5 rfl σ) (by omega) (by decide +kernel) rfl rfl rfl (Nat.le_of_ble_eq_true rfl) rfl ?_
  show fhW fhYF Γ 130 [(0, .ref 10), (2, .int v2), (5, .int v5), (6, .int v6), (7, .int v7)] [] (fcP σ 11 (5 : Int32) v5)
  refine fhW.blk fhPF fhLL hΓ [(.aload_n 0, 0), (.getfield 14, 0), (.bipush 6, 6), (.iload 6, 0)] (pc' := 138) (lv' := [(0, .ref 10), (2, .int v2), (5, .int v5), (6, .int v6), (7, .int v7)]) (st' := [.int v6, .int (6 : Int32), .ref 11]) (σ' := (fcP σ 11 (5 : Int32) v5)) (by decide +kernel) rfl rfl rfl ?_
  refine fhW.callv hΓ mvX2_put ml_10_26 (t := 11) (ci := 2) (av := [.int (6 : Int32), .int v6]) (rest := []) (r := none) (σ' := (fcP (fcP σ 11 (5 : Int32) v5) 11 (6 : Int32) v6)) (T_X2_put (E := fhEn Γ) (d := fhD Γ - 1) hE (by omega) 11 (6 : Int32) v6 rfl (fcP σ 11 (5 : Int32) v5)) (by omega) (by decide +kernel) rfl rfl rfl (Nat.le_of_ble_eq_true rfl) rfl ?_
  show fhW fhYF Γ 141 [(0, .ref 10), (2, .int v2), (5, .int v5), (6, .int v6), (7, .int v7)] [] (fcP (fcP σ 11 (5 : Int32) v5) 11 (6 : Int32) v6)
  refine fhW.blk fhPF fhLL hΓ [(.aload_n 0, 0), (.getfield 14, 0), (.bipush 7, 7), (.iload 7, 0)] (pc' := 149) (lv' := [(0, .ref 10), (2, .int v2), (5, .int v5), (6, .int v6), (7, .int v7)]) (st' := [.int v7, .int (7 : Int32), .ref 11]) (σ' := (fcP (fcP σ 11 (5 : Int32) v5) 11 (6 : Int32) v6)) (by decide +kernel) rfl rfl rfl ?_
  refine fhW.callv hΓ mvX2_put ml_10_26 (t := 11) (ci := 2) (av := [.int (7 : Int32), .int v7]) (rest := []) (r := none) (σ' := (fcP (fcP (fcP σ 11 (5 : Int32) v5) 11 (6 : Int32) v6) 11 (7 : Int32) v7)) (T_X2_put (E := fhEn Γ) (d := fhD Γ - 1) hE (by omega) 11 (7 : Int32) v7 rfl (fcP (fcP σ 11 (5 : Int32) v5) 11 (6 : Int32) v6)) (by omega) (by decide +kernel) rfl rfl rfl (Nat.le_of_ble_eq_true rfl) rfl ?_
  show fhW fhYF Γ 152 [(0, .ref 10), (2, .int v2), (5, .int v5), (6, .int v6), (7, .int v7)] [] (fcP (fcP (fcP σ 11 (5 : Int32) v5) 11 (6 : Int32) v6) 11 (7 : Int32) v7)
  refine fhW.blk fhPF fhLL hΓ [(.aload_n 0, 0), (.getfield 14, 0), (.bipush 8, 8), (.aload_n 0, 0), (.iload_n 2, 0)] (pc' := 160) (lv' := [(0, .ref 10), (2, .int v2), (5, .int v5), (6, .int v6), (7, .int v7)]) (st' := [.int v2, .ref 10, .int (8 : Int32), .ref 11]) (σ' := (fcP (fcP (fcP σ 11 (5 : Int32) v5) 11 (6 : Int32) v6) 11 (7 : Int32) v7)) (by decide +kernel) rfl rfl rfl ?_
  obtain ⟨q1, hb1, h⟩ := Option.bind_eq_some_iff.mp h
  refine fhW.callv hΓ mvX10_countKinds ml_10_43 (t := 10) (ci := 10) (av := [.int v2]) (rest := [.int (8 : Int32), .ref 11]) (r := (some (.int q1))) (σ' := (fcP (fcP (fcP σ 11 (5 : Int32) v5) 11 (6 : Int32) v6) 11 (7 : Int32) v7)) (T_X10_countKinds (E := fhEn Γ) (d := fhD Γ - 1) hE (by omega) v2 (fcP (fcP (fcP σ 11 (5 : Int32) v5) 11 (6 : Int32) v6) 11 (7 : Int32) v7) hb1) (by omega) (by decide +kernel) rfl rfl rfl (Nat.le_of_ble_eq_true rfl) rfl ?_
  show fhW fhYF Γ 163 [(0, .ref 10), (2, .int v2), (5, .int v5), (6, .int v6), (7, .int v7)] [.int q1, .int (8 : Int32), .ref 11] (fcP (fcP (fcP σ 11 (5 : Int32) v5) 11 (6 : Int32) v6) 11 (7 : Int32) v7)
  refine fhW.callv hΓ mvX2_put ml_10_26 (t := 11) (ci := 2) (av := [.int (8 : Int32), .int q1]) (rest := []) (r := none) (σ' := (fcP (fcP (fcP (fcP σ 11 (5 : Int32) v5) 11 (6 : Int32) v6) 11 (7 : Int32) v7) 11 (8 : Int32) q1)) (T_X2_put (E := fhEn Γ) (d := fhD Γ - 1) hE (by omega) 11 (8 : Int32) q1 rfl (fcP (fcP (fcP σ 11 (5 : Int32) v5) 11 (6 : Int32) v6) 11 (7 : Int32) v7)) (by omega) (by decide +kernel) rfl rfl rfl (Nat.le_of_ble_eq_true rfl) rfl ?_
  show fhW fhYF Γ 166 [(0, .ref 10), (2, .int v2), (5, .int v5), (6, .int v6), (7, .int v7)] [] (fcP (fcP (fcP (fcP σ 11 (5 : Int32) v5) 11 (6 : Int32) v6) 11 (7 : Int32) v7) 11 (8 : Int32) q1)
  have e9 := Option.some.inj h
  subst e9
  exact fhW.vret hΓ (by decide +kernel) hk
set_option maxRecDepth 100000 in
set_option maxHeartbeats 4000000 in
theorem L_X10_fillFromRow_30 {Γ : fhX} (hE : fhEok fhYF (fhEn Γ)) (hΓ : fhOk fhYF 10 cX10_fillFromRow 10 none Γ) (hd : 2 ≤ fhD Γ) (v2 : Int32) (v3 : Int32) (v4 : Int32) (v5 : Int32) (v6 : Int32) (v7 : Int32) (v8 : Int32)  (σ : fhM) (o : (Int32 × Int32 × Int32 × Int32 × Int32 × fhM) ⊕ (fhM)) (h : f_X10_fillFromRow_30 v2 v3 v4 v5 v6 v7 v8 σ = some o) (hk : (fhK (fun x => fhW fhYF Γ 30 [(0, .ref 10), (2, .int v2), (3, .int v3), (4, .int x.1), (5, .int x.2.1), (6, .int x.2.2.1), (7, .int x.2.2.2.1), (8, .int x.2.2.2.2.1)] [] x.2.2.2.2.2) (fun o => fhRet Γ none o)) o) : fhW fhYF Γ 30 [(0, .ref 10), (2, .int v2), (3, .int v3), (4, .int v4), (5, .int v5), (6, .int v6), (7, .int v7), (8, .int v8)] [] σ := by
  unfold f_X10_fillFromRow_30 at h
  refine fhW.blk fhPF fhLL hΓ [(.iload 8, 0), (.iload_n 3, 0)] (pc' := 33) (lv' := [(0, .ref 10), (2, .int v2), (3, .int v3), (4, .int v4), (5, .int v5), (6, .int v6), (7, .int v7), (8, .int v8)]) (st' := [.int v3, .int v8]) (σ' := σ) (by decide +kernel) rfl rfl rfl ?_
  refine fhW.i_ge hΓ (tgt := 120) (show fhbk _ _ (.if_icmp .ge (87)) _ = true by decide +kernel) (fun hc => ?_) (fun hc => ?_)
  · rw [if_pos hc] at h
    refine fhW.sub (lv' := [(0, .ref 10), (2, .int v2), (5, .int v5), (6, .int v6), (7, .int v7)]) [0, 1, 4, 5, 6] rfl ?_
    obtain ⟨z1, hz, e1⟩ := Option.map_eq_some_iff.mp h
    clear h
    subst e1
    have h := hz
    have hk : (fun o => fhRet Γ none o) z1 := hk
    exact L_X10_fillFromRow_120 hE hΓ hd v2 v5 v6 v7 σ _ h hk
  · rw [if_neg hc] at h
    refine fhW.blk fhPF fhLL hΓ [(.iload_n 2, 0)] (pc' := 37) (lv' := [(0, .ref 10), (2, .int v2), (3, .int v3), (4, .int v4), (5, .int v5), (6, .int v6), (7, .int v7), (8, .int v8)]) (st' := [.int v2]) (σ' := σ) (by decide +kernel) rfl rfl rfl ?_
    refine fhW.z_le hΓ (tgt := 120) (show fhbk _ _ (.ifCond .le (83)) _ = true by decide +kernel) (fun hc => ?_) (fun hc => ?_)
    · rw [if_pos hc] at h
      refine fhW.sub (lv' := [(0, .ref 10), (2, .int v2), (5, .int v5), (6, .int v6), (7, .int v7)]) [0, 1, 4, 5, 6] rfl ?_
      obtain ⟨z2, hz, e2⟩ := Option.map_eq_some_iff.mp h
      clear h
      subst e2
      have h := hz
      have hk : (fun o => fhRet Γ none o) z2 := hk
      exact L_X10_fillFromRow_120 hE hΓ hd v2 v5 v6 v7 σ _ h hk
    · rw [if_neg hc] at h
      obtain ⟨hg1, h⟩ := fhif h
      refine fhW.blk fhPF fhLL hΓ [(.iload 4, 0), (.iload_n 2, 0), (.irem, 0), (.istore 9, 0), (.iload 4, 0), (.iload_n 2, 0), (.idiv, 0), (.istore 4, 0), (.aload_n 0, 0), (.getfield 14, 0), (.iload 8, 0), (.iload 9, 0)] (pc' := 60) (lv' := [(4, .int (v4 / v2)), (9, .int (fhrem v4 v2)), (0, .ref 10), (2, .int v2), (3, .int v3), (5, .int v5), (6, .int v6), (7, .int v7), (8, .int v8)]) (st' := [.int (fhrem v4 v2), .int v8, .ref 11]) (σ' := σ) (by decide +kernel) rfl rfl hg1 ?_
      refine fhW.callv hΓ mvX2_put ml_10_26 (t := 11) (ci := 2) (av := [.int v8, .int (fhrem v4 v2)]) (rest := []) (r := none) (σ' := (fcP σ 11 v8 (fhrem v4 v2))) (T_X2_put (E := fhEn Γ) (d := fhD Γ - 1) hE (by omega) 11 v8 (fhrem v4 v2) rfl σ) (by omega) (by decide +kernel) rfl rfl rfl (Nat.le_of_ble_eq_true rfl) rfl ?_
      show fhW fhYF Γ 63 [(4, .int (v4 / v2)), (9, .int (fhrem v4 v2)), (0, .ref 10), (2, .int v2), (3, .int v3), (5, .int v5), (6, .int v6), (7, .int v7), (8, .int v8)] [] (fcP σ 11 v8 (fhrem v4 v2))
      refine fhW.blk fhPF fhLL hΓ [(.aload_n 0, 0), (.getfield 14, 0), (.bipush 15, 15), (.iload 9, 0), (.iadd, 0), (.aload_n 0, 0), (.getfield 14, 0), (.bipush 15, 15), (.iload 9, 0), (.iadd, 0)] (pc' := 81) (lv' := [(4, .int (v4 / v2)), (9, .int (fhrem v4 v2)), (0, .ref 10), (2, .int v2), (3, .int v3), (5, .int v5), (6, .int v6), (7, .int v7), (8, .int v8)]) (st' := [.int ((15 : Int32) + (fhrem v4 v2)), .ref 11, .int ((15 : Int32) + (fhrem v4 v2)), .ref 11]) (σ' := (fcP σ 11 v8 (fhrem v4 v2))) (by decide +kernel) rfl rfl rfl ?_
      refine fhW.callv hΓ mvX2_get ml_10_30 (t := 11) (ci := 2) (av := [.int ((15 : Int32) + (fhrem v4 v2))]) (rest := [.int ((15 : Int32) + (fhrem v4 v2)), .ref 11]) (r := (some (.int (fcG (fcP σ 11 v8 (fhrem v4 v2)) 11 ((15 : Int32) + (fhrem v4 v2)))))) (σ' := (fcP σ 11 v8 (fhrem v4 v2))) (T_X2_get (E := fhEn Γ) (d := fhD Γ - 1) hE (by omega) 11 ((15 : Int32) + (fhrem v4 v2)) rfl (fcP σ 11 v8 (fhrem v4 v2))) (by omega) (by decide +kernel) rfl rfl rfl (Nat.le_of_ble_eq_true rfl) rfl ?_
      show fhW fhYF Γ 84 [(4, .int (v4 / v2)), (9, .int (fhrem v4 v2)), (0, .ref 10), (2, .int v2), (3, .int v3), (5, .int v5), (6, .int v6), (7, .int v7), (8, .int v8)] [.int (fcG (fcP σ 11 v8 (fhrem v4 v2)) 11 ((15 : Int32) + (fhrem v4 v2))), .int ((15 : Int32) + (fhrem v4 v2)), .ref 11] (fcP σ 11 v8 (fhrem v4 v2))
      refine fhW.blk fhPF fhLL hΓ [(.iconst 1, 1), (.iadd, 0)] (pc' := 86) (lv' := [(4, .int (v4 / v2)), (9, .int (fhrem v4 v2)), (0, .ref 10), (2, .int v2), (3, .int v3), (5, .int v5), (6, .int v6), (7, .int v7), (8, .int v8)]) (st' := [.int ((fcG (fcP σ 11 v8 (fhrem v4 v2)) 11 ((15 : Int32) + (fhrem v4 v2))) + (1 : Int32)), .int ((15 : Int32) + (fhrem v4 v2)), .ref 11]) (σ' := (fcP σ 11 v8 (fhrem v4 v2))) (by decide +kernel) rfl rfl rfl ?_
      refine fhW.callv hΓ mvX2_put ml_10_26 (t := 11) (ci := 2) (av := [.int ((15 : Int32) + (fhrem v4 v2)), .int ((fcG (fcP σ 11 v8 (fhrem v4 v2)) 11 ((15 : Int32) + (fhrem v4 v2))) + (1 : Int32))]) (rest := []) (r := none) (σ' := (fcP (fcP σ 11 v8 (fhrem v4 v2)) 11 ((15 : Int32) + (fhrem v4 v2)) ((fcG (fcP σ 11 v8 (fhrem v4 v2)) 11 ((15 : Int32) + (fhrem v4 v2))) + (1 : Int32)))) (T_X2_put (E := fhEn Γ) (d := fhD Γ - 1) hE (by omega) 11 ((15 : Int32) + (fhrem v4 v2)) ((fcG (fcP σ 11 v8 (fhrem v4 v2)) 11 ((15 : Int32) + (fhrem v4 v2))) + (1 : Int32)) rfl (fcP σ 11 v8 (fhrem v4 v2))) (by omega) (by decide +kernel) rfl rfl rfl (Nat.le_of_ble_eq_true rfl) rfl ?_
      show fhW fhYF Γ 89 [(4, .int (v4 / v2)), (9, .int (fhrem v4 v2)), (0, .ref 10), (2, .int v2), (3, .int v3), (5, .int v5), (6, .int v6), (7, .int v7), (8, .int v8)] [] (fcP (fcP σ 11 v8 (fhrem v4 v2)) 11 ((15 : Int32) + (fhrem v4 v2)) ((fcG (fcP σ 11 v8 (fhrem v4 v2)) 11 ((15 : Int32) + (fhrem v4 v2))) + (1 : Int32)))
      refine fhW.blk fhPF fhLL hΓ [(.iload 5, 0), (.iload 9, 0), (.iadd, 0), (.istore 5, 0), (.iload 6, 0), (.iload 9, 0)] (pc' := 100) (lv' := [(5, .int (v5 + (fhrem v4 v2))), (4, .int (v4 / v2)), (9, .int (fhrem v4 v2)), (0, .ref 10), (2, .int v2), (3, .int v3), (6, .int v6), (7, .int v7), (8, .int v8)]) (st' := [.int (fhrem v4 v2), .int v6]) (σ' := (fcP (fcP σ 11 v8 (fhrem v4 v2)) 11 ((15 : Int32) + (fhrem v4 v2)) ((fcG (fcP σ 11 v8 (fhrem v4 v2)) 11 ((15 : Int32) + (fhrem v4 v2))) + (1 : Int32)))) (by decide +kernel) rfl rfl rfl ?_
      refine fhW.calls hΓ msJ9_max_7cf53 ml_10_34 (av := [.int v6, .int (fhrem v4 v2)]) (rest := []) (r := (some (.int (f_J9_max_7cf53 v6 (fhrem v4 v2) (fcP (fcP σ 11 v8 (fhrem v4 v2)) 11 ((15 : Int32) + (fhrem v4 v2)) ((fcG (fcP σ 11 v8 (fhrem v4 v2)) 11 ((15 : Int32) + (fhrem v4 v2))) + (1 : Int32))))))) (σ' := (fcP (fcP σ 11 v8 (fhrem v4 v2)) 11 ((15 : Int32) + (fhrem v4 v2)) ((fcG (fcP σ 11 v8 (fhrem v4 v2)) 11 ((15 : Int32) + (fhrem v4 v2))) + (1 : Int32)))) (T_J9_max_7cf53 (E := fhEn Γ) (d := fhD Γ - 1) hE (by omega) v6 (fhrem v4 v2) (fcP (fcP σ 11 v8 (fhrem v4 v2)) 11 ((15 : Int32) + (fhrem v4 v2)) ((fcG (fcP σ 11 v8 (fhrem v4 v2)) 11 ((15 : Int32) + (fhrem v4 v2))) + (1 : Int32)))) (by omega) (by decide +kernel) rfl (Nat.le_of_ble_eq_true rfl) rfl ?_
      show fhW fhYF Γ 103 [(5, .int (v5 + (fhrem v4 v2))), (4, .int (v4 / v2)), (9, .int (fhrem v4 v2)), (0, .ref 10), (2, .int v2), (3, .int v3), (6, .int v6), (7, .int v7), (8, .int v8)] [.int (f_J9_max_7cf53 v6 (fhrem v4 v2) (fcP (fcP σ 11 v8 (fhrem v4 v2)) 11 ((15 : Int32) + (fhrem v4 v2)) ((fcG (fcP σ 11 v8 (fhrem v4 v2)) 11 ((15 : Int32) + (fhrem v4 v2))) + (1 : Int32))))] (fcP (fcP σ 11 v8 (fhrem v4 v2)) 11 ((15 : Int32) + (fhrem v4 v2)) ((fcG (fcP σ 11 v8 (fhrem v4 v2)) 11 ((15 : Int32) + (fhrem v4 v2))) + (1 : Int32)))
      refine fhW.blk fhPF fhLL hΓ [(.istore 6, 0)] (pc' := 105) (lv' := [(6, .int (f_J9_max_7cf53 v6 (fhrem v4 v2) (fcP (fcP σ 11 v8 (fhrem v4 v2)) 11 ((15 : Int32) + (fhrem v4 v2)) ((fcG (fcP σ 11 v8 (fhrem v4 v2)) 11 ((15 : Int32) + (fhrem v4 v2))) + (1 : Int32))))), (5, .int (v5 + (fhrem v4 v2))), (4, .int (v4 / v2)), (9, .int (fhrem v4 v2)), (0, .ref 10), (2, .int v2), (3, .int v3), (7, .int v7), (8, .int v8)]) (st' := []) (σ' := (fcP (fcP σ 11 v8 (fhrem v4 v2)) 11 ((15 : Int32) + (fhrem v4 v2)) ((fcG (fcP σ 11 v8 (fhrem v4 v2)) 11 ((15 : Int32) + (fhrem v4 v2))) + (1 : Int32)))) (by decide +kernel) rfl rfl rfl ?_
      obtain ⟨w6_1, e3, h⟩ := fhlet_elim h
      rw [← e3]
      refine fhW.blk fhPF fhLL hΓ [(.iload 7, 0), (.iload 9, 0)] (pc' := 109) (lv' := [(6, .int w6_1), (5, .int (v5 + (fhrem v4 v2))), (4, .int (v4 / v2)), (9, .int (fhrem v4 v2)), (0, .ref 10), (2, .int v2), (3, .int v3), (7, .int v7), (8, .int v8)]) (st' := [.int (fhrem v4 v2), .int v7]) (σ' := (fcP (fcP σ 11 v8 (fhrem v4 v2)) 11 ((15 : Int32) + (fhrem v4 v2)) ((fcG (fcP σ 11 v8 (fhrem v4 v2)) 11 ((15 : Int32) + (fhrem v4 v2))) + (1 : Int32)))) (by decide +kernel) rfl rfl rfl ?_
      refine fhW.calls hΓ msJ9_min_7cf53 ml_10_40 (av := [.int v7, .int (fhrem v4 v2)]) (rest := []) (r := (some (.int (f_J9_min_7cf53 v7 (fhrem v4 v2) (fcP (fcP σ 11 v8 (fhrem v4 v2)) 11 ((15 : Int32) + (fhrem v4 v2)) ((fcG (fcP σ 11 v8 (fhrem v4 v2)) 11 ((15 : Int32) + (fhrem v4 v2))) + (1 : Int32))))))) (σ' := (fcP (fcP σ 11 v8 (fhrem v4 v2)) 11 ((15 : Int32) + (fhrem v4 v2)) ((fcG (fcP σ 11 v8 (fhrem v4 v2)) 11 ((15 : Int32) + (fhrem v4 v2))) + (1 : Int32)))) (T_J9_min_7cf53 (E := fhEn Γ) (d := fhD Γ - 1) hE (by omega) v7 (fhrem v4 v2) (fcP (fcP σ 11 v8 (fhrem v4 v2)) 11 ((15 : Int32) + (fhrem v4 v2)) ((fcG (fcP σ 11 v8 (fhrem v4 v2)) 11 ((15 : Int32) + (fhrem v4 v2))) + (1 : Int32)))) (by omega) (by decide +kernel) rfl (Nat.le_of_ble_eq_true rfl) rfl ?_
      show fhW fhYF Γ 112 [(6, .int w6_1), (5, .int (v5 + (fhrem v4 v2))), (4, .int (v4 / v2)), (9, .int (fhrem v4 v2)), (0, .ref 10), (2, .int v2), (3, .int v3), (7, .int v7), (8, .int v8)] [.int (f_J9_min_7cf53 v7 (fhrem v4 v2) (fcP (fcP σ 11 v8 (fhrem v4 v2)) 11 ((15 : Int32) + (fhrem v4 v2)) ((fcG (fcP σ 11 v8 (fhrem v4 v2)) 11 ((15 : Int32) + (fhrem v4 v2))) + (1 : Int32))))] (fcP (fcP σ 11 v8 (fhrem v4 v2)) 11 ((15 : Int32) + (fhrem v4 v2)) ((fcG (fcP σ 11 v8 (fhrem v4 v2)) 11 ((15 : Int32) + (fhrem v4 v2))) + (1 : Int32)))
      refine fhW.blk fhPF fhLL hΓ [(.istore 7, 0)] (pc' := 114) (lv' := [(7, .int (f_J9_min_7cf53 v7 (fhrem v4 v2) (fcP (fcP σ 11 v8 (fhrem v4 v2)) 11 ((15 : Int32) + (fhrem v4 v2)) ((fcG (fcP σ 11 v8 (fhrem v4 v2)) 11 ((15 : Int32) + (fhrem v4 v2))) + (1 : Int32))))), (6, .int w6_1), (5, .int (v5 + (fhrem v4 v2))), (4, .int (v4 / v2)), (9, .int (fhrem v4 v2)), (0, .ref 10), (2, .int v2), (3, .int v3), (8, .int v8)]) (st' := []) (σ' := (fcP (fcP σ 11 v8 (fhrem v4 v2)) 11 ((15 : Int32) + (fhrem v4 v2)) ((fcG (fcP σ 11 v8 (fhrem v4 v2)) 11 ((15 : Int32) + (fhrem v4 v2))) + (1 : Int32)))) (by decide +kernel) rfl rfl rfl ?_
      obtain ⟨w7_1, e4, h⟩ := fhlet_elim h
      rw [← e4]
      refine fhW.blk fhPF fhLL hΓ [(.iinc 8 1, 1)] (pc' := 117) (lv' := [(8, .int (v8 + (1 : Int32))), (7, .int w7_1), (6, .int w6_1), (5, .int (v5 + (fhrem v4 v2))), (4, .int (v4 / v2)), (9, .int (fhrem v4 v2)), (0, .ref 10), (2, .int v2), (3, .int v3)]) (st' := []) (σ' := (fcP (fcP σ 11 v8 (fhrem v4 v2)) 11 ((15 : Int32) + (fhrem v4 v2)) ((fcG (fcP σ 11 v8 (fhrem v4 v2)) 11 ((15 : Int32) + (fhrem v4 v2))) + (1 : Int32)))) (by decide +kernel) rfl rfl rfl ?_
      refine fhW.goto hΓ (off := (-87)) (tgt := 30) (by decide +kernel) ?_
      refine fhW.sub (lv' := [(0, .ref 10), (2, .int v2), (3, .int v3), (4, .int (v4 / v2)), (5, .int (v5 + (fhrem v4 v2))), (6, .int w6_1), (7, .int w7_1), (8, .int (v8 + (1 : Int32)))]) [6, 7, 8, 4, 3, 2, 1, 0] rfl ?_
      have e9 := Option.some.inj h
      subst e9
      exact hk
set_option maxRecDepth 100000 in
set_option maxHeartbeats 4000000 in
theorem L_X10_fillFromRow_25 {Γ : fhX} (hE : fhEok fhYF (fhEn Γ)) (hΓ : fhOk fhYF 10 cX10_fillFromRow 10 none Γ) (hd : 2 ≤ fhD Γ) (v2 : Int32) (v3 : Int32) (v4 : Int32) (v5 : Int32) (v6 : Int32) (s0 : Int32)  (σ : fhM) (o : fhM) (h : f_X10_fillFromRow_25 v2 v3 v4 v5 v6 s0 σ = some o) (hk : (fun o => fhRet Γ none o) o) : fhW fhYF Γ 25 [(0, .ref 10), (2, .int v2), (3, .int v3), (4, .int v4), (5, .int v5), (6, .int v6)] [.int s0] σ := by
  unfold f_X10_fillFromRow_25 at h
  refine fhW.blk fhPF fhLL hΓ [(.istore 7, 0), (.iconst 0, 0), (.istore 8, 0)] (pc' := 30) (lv' := [(8, .int (0 : Int32)), (7, .int s0), (0, .ref 10), (2, .int v2), (3, .int v3), (4, .int v4), (5, .int v5), (6, .int v6)]) (st' := []) (σ' := σ) (by decide +kernel) rfl rfl rfl ?_
  refine fhW.sub (lv' := [(0, .ref 10), (2, .int v2), (3, .int v3), (4, .int v4), (5, .int v5), (6, .int v6), (7, .int s0), (8, .int (0 : Int32))]) [2, 3, 4, 5, 6, 7, 1, 0] rfl ?_
  exact fhlp_ok (W := (fun x => fhW fhYF Γ 30 [(0, .ref 10), (2, .int v2), (3, .int v3), (4, .int x.1), (5, .int x.2.1), (6, .int x.2.2.1), (7, .int x.2.2.2.1), (8, .int x.2.2.2.2.1)] [] x.2.2.2.2.2)) (B := (fun o => fhRet Γ none o)) (fun x o h hk => L_X10_fillFromRow_30 hE hΓ hd v2 v3 x.1 x.2.1 x.2.2.1 x.2.2.2.1 x.2.2.2.2.1 x.2.2.2.2.2 o h hk) (v4, v5, v6, s0, (0 : Int32), σ) _ h hk
set_option maxRecDepth 100000 in
set_option maxHeartbeats 4000000 in
theorem L_X10_fillFromRow_E {Γ : fhX} (hE : fhEok fhYF (fhEn Γ)) (hΓ : fhOk fhYF 10 cX10_fillFromRow 10 none Γ) (hd : 2 ≤ fhD Γ) (v1 : Int32) (v2 : Int32) (v3 : Int32)  (σ : fhM) (o : fhM) (h : f_X10_fillFromRow v1 v2 v3 σ = some o) (hk : (fun o => fhRet Γ none o) o) : fhW fhYF Γ 0 [(0, .ref 10), (1, .int v1), (2, .int v2), (3, .int v3)] [] σ := by
  unfold f_X10_fillFromRow at h
  refine fhW.blk fhPF fhLL hΓ [(.aload_n 0, 0), (.getfield 14, 0)] (pc' := 4) (lv' := [(0, .ref 10), (1, .int v1), (2, .int v2), (3, .int v3)]) (st' := [.ref 11]) (σ' := σ) (by decide +kernel) rfl rfl rfl ?_
  refine fhW.callv hΓ mvX2_wipe ml_10_23 (t := 11) (ci := 2) (av := []) (rest := []) (r := none) (σ' := (fcW σ 11)) (T_X2_wipe (E := fhEn Γ) (d := fhD Γ - 1) hE (by omega) 11 rfl σ) (by omega) (by decide +kernel) rfl rfl rfl (Nat.le_of_ble_eq_true rfl) rfl ?_
  show fhW fhYF Γ 7 [(0, .ref 10), (1, .int v1), (2, .int v2), (3, .int v3)] [] (fcW σ 11)
  refine fhW.blk fhPF fhLL hΓ [(.iload_n 1, 0), (.istore 4, 0), (.iconst 0, 0), (.istore 5, 0), (.iconst 0, 0), (.istore 6, 0), (.iload_n 3, 0)] (pc' := 17) (lv' := [(6, .int (0 : Int32)), (5, .int (0 : Int32)), (4, .int v1), (0, .ref 10), (1, .int v1), (2, .int v2), (3, .int v3)]) (st' := [.int v3]) (σ' := (fcW σ 11)) (by decide +kernel) rfl rfl rfl ?_
  refine fhW.z_le hΓ (tgt := 24) (show fhbk _ _ (.ifCond .le (7)) _ = true by decide +kernel) (fun hc => ?_) (fun hc => ?_)
  · simp only [if_pos hc] at h
    refine fhW.blk fhPF fhLL hΓ [(.iconst 0, 0)] (pc' := 25) (lv' := [(6, .int (0 : Int32)), (5, .int (0 : Int32)), (4, .int v1), (0, .ref 10), (1, .int v1), (2, .int v2), (3, .int v3)]) (st' := [.int (0 : Int32)]) (σ' := (fcW σ 11)) (by decide +kernel) rfl rfl rfl ?_
    refine fhW.sub (lv' := [(0, .ref 10), (2, .int v2), (3, .int v3), (4, .int v1), (5, .int (0 : Int32)), (6, .int (0 : Int32))]) [3, 5, 6, 2, 1, 0] rfl ?_
    exact L_X10_fillFromRow_25 hE hΓ hd v2 v3 v1 (0 : Int32) (0 : Int32) (0 : Int32) (fcW σ 11) _ h hk
  · simp only [if_neg hc] at h
    refine fhW.blk fhPF fhLL hΓ [(.iload_n 2, 0)] (pc' := 21) (lv' := [(6, .int (0 : Int32)), (5, .int (0 : Int32)), (4, .int v1), (0, .ref 10), (1, .int v1), (2, .int v2), (3, .int v3)]) (st' := [.int v2]) (σ' := (fcW σ 11)) (by decide +kernel) rfl rfl rfl ?_
    refine fhW.goto hΓ (off := 4) (tgt := 25) (by decide +kernel) ?_
    refine fhW.sub (lv' := [(0, .ref 10), (2, .int v2), (3, .int v3), (4, .int v1), (5, .int (0 : Int32)), (6, .int (0 : Int32))]) [3, 5, 6, 2, 1, 0] rfl ?_
    exact L_X10_fillFromRow_25 hE hΓ hd v2 v3 v1 (0 : Int32) (0 : Int32) v2 (fcW σ 11) _ h hk
set_option maxRecDepth 100000 in
theorem T_X10_fillFromRow {E : fhE} {d : Nat} (hE : fhEok fhYF E) (hd : 2 ≤ d) (v1 : Int32) (v2 : Int32) (v3 : Int32)  (σ : fhM) {o : fhM} (h : f_X10_fillFromRow v1 v2 v3 σ = some o) : fhC fhYF E d miX10_fillFromRow [.ref 10, .int v1, .int v2, .int v3] σ none o := by
  refine fhC.of (y := yX10_fillFromRow) (cc := cX10_fillFromRow) (nL := 10) (ret := none) 10 rfl (by decide +kernel) (Nat.le_of_ble_eq_true rfl) ?_
  intro Γ hΓ hR hD hEn
  subst hD; subst hEn
  exact L_X10_fillFromRow_E hE hΓ hd v1 v2 v3  σ _ h hR
set_option maxRecDepth 100000 in
set_option maxHeartbeats 4000000 in
theorem L_X10_push_E {Γ : fhX} (hE : fhEok fhYF (fhEn Γ)) (hΓ : fhOk fhYF 10 cX10_push 2 none Γ) (hd : 1 ≤ fhD Γ) (v1 : Int32)  (σ : fhM) (o : fhM) (h : f_X10_push v1 σ = o) (hk : (fun o => fhRet Γ none o) o) : fhW fhYF Γ 0 [(0, .ref 10), (1, .int v1)] [] σ := by
  unfold f_X10_push at h
  refine fhW.blk fhPF fhLL hΓ [(.aload_n 0, 0), (.getfield 20, 0), (.aload_n 0, 0), (.getfield 77, 0), (.iload_n 1, 0)] (pc' := 9) (lv' := [(0, .ref 10), (1, .int v1)]) (st' := [.int v1, .int (σ.1 10 2), .ref 13]) (σ' := σ) (by decide +kernel) rfl rfl rfl ?_
  refine fhW.callv hΓ mvX2_put ml_10_26 (t := 13) (ci := 2) (av := [.int (σ.1 10 2), .int v1]) (rest := []) (r := none) (σ' := (fcP σ 13 (σ.1 10 2) v1)) (T_X2_put (E := fhEn Γ) (d := fhD Γ - 1) hE (by omega) 13 (σ.1 10 2) v1 rfl σ) (by omega) (by decide +kernel) rfl rfl rfl (Nat.le_of_ble_eq_true rfl) rfl ?_
  show fhW fhYF Γ 12 [(0, .ref 10), (1, .int v1)] [] (fcP σ 13 (σ.1 10 2) v1)
  refine fhW.blk fhPF fhLL hΓ [(.aload_n 0, 0), (.dup, 0), (.getfield 77, 0), (.iconst 1, 1), (.iadd, 0), (.putfield 77, 0)] (pc' := 22) (lv' := [(0, .ref 10), (1, .int v1)]) (st' := []) (σ' := (fhI (fcP σ 13 (σ.1 10 2) v1) 10 2 ((σ.1 10 2) + (1 : Int32)))) (by decide +kernel) rfl rfl rfl ?_
  subst h
  exact fhW.vret hΓ (by decide +kernel) hk
set_option maxRecDepth 100000 in
theorem T_X10_push {E : fhE} {d : Nat} (hE : fhEok fhYF E) (hd : 1 ≤ d) (v1 : Int32)  (σ : fhM) : fhC fhYF E d miX10_push [.ref 10, .int v1] σ none (f_X10_push v1 σ) := by
  refine fhC.of (y := yX10_push) (cc := cX10_push) (nL := 2) (ret := none) 10 rfl (by decide +kernel) (Nat.le_of_ble_eq_true rfl) ?_
  intro Γ hΓ hR hD hEn
  subst hD; subst hEn
  exact L_X10_push_E hE hΓ hd v1  σ _ rfl hR
set_option maxRecDepth 100000 in
set_option maxHeartbeats 4000000 in
theorem L_X10_pop_E {Γ : fhX} (hE : fhEok fhYF (fhEn Γ)) (hΓ : fhOk fhYF 10 cX10_pop 1 (some .int) Γ) (hd : 1 ≤ fhD Γ)   (σ : fhM) (o : Int32 × fhM) (h : f_X10_pop σ = o) (hk : (fun o => fhRet Γ (some (.int o.1)) o.2) o) : fhW fhYF Γ 0 [(0, .ref 10)] [] σ := by
  unfold f_X10_pop at h
  refine fhW.blk fhPF fhLL hΓ [(.aload_n 0, 0), (.aload_n 0, 0), (.getfield 77, 0), (.iconst 1, 1), (.isub, 0), (.iconst 0, 0)] (pc' := 8) (lv' := [(0, .ref 10)]) (st' := [.int (0 : Int32), .int ((σ.1 10 2) - (1 : Int32)), .ref 10]) (σ' := σ) (by decide +kernel) rfl rfl rfl ?_
  refine fhW.calls hΓ msJ9_max_7cf53 ml_10_34 (av := [.int ((σ.1 10 2) - (1 : Int32)), .int (0 : Int32)]) (rest := [.ref 10]) (r := (some (.int (f_J9_max_7cf53 ((σ.1 10 2) - (1 : Int32)) (0 : Int32) σ)))) (σ' := σ) (T_J9_max_7cf53 (E := fhEn Γ) (d := fhD Γ - 1) hE (by omega) ((σ.1 10 2) - (1 : Int32)) (0 : Int32) σ) (by omega) (by decide +kernel) rfl (Nat.le_of_ble_eq_true rfl) rfl ?_
  show fhW fhYF Γ 11 [(0, .ref 10)] [.int (f_J9_max_7cf53 ((σ.1 10 2) - (1 : Int32)) (0 : Int32) σ), .ref 10] σ
  refine fhW.blk fhPF fhLL hΓ [(.putfield 77, 0), (.aload_n 0, 0), (.getfield 20, 0), (.aload_n 0, 0), (.getfield 77, 0)] (pc' := 22) (lv' := [(0, .ref 10)]) (st' := [.int (f_J9_max_7cf53 ((σ.1 10 2) - (1 : Int32)) (0 : Int32) σ), .ref 13]) (σ' := (fhI σ 10 2 (f_J9_max_7cf53 ((σ.1 10 2) - (1 : Int32)) (0 : Int32) σ))) (by decide +kernel) rfl rfl rfl ?_
  refine fhW.callv hΓ mvX2_get ml_10_30 (t := 13) (ci := 2) (av := [.int (f_J9_max_7cf53 ((σ.1 10 2) - (1 : Int32)) (0 : Int32) σ)]) (rest := []) (r := (some (.int (fcG (fhI σ 10 2 (f_J9_max_7cf53 ((σ.1 10 2) - (1 : Int32)) (0 : Int32) σ)) 13 (f_J9_max_7cf53 ((σ.1 10 2) - (1 : Int32)) (0 : Int32) σ))))) (σ' := (fhI σ 10 2 (f_J9_max_7cf53 ((σ.1 10 2) - (1 : Int32)) (0 : Int32) σ))) (T_X2_get (E := fhEn Γ) (d := fhD Γ - 1) hE (by omega) 13 (f_J9_max_7cf53 ((σ.1 10 2) - (1 : Int32)) (0 : Int32) σ) rfl (fhI σ 10 2 (f_J9_max_7cf53 ((σ.1 10 2) - (1 : Int32)) (0 : Int32) σ))) (by omega) (by decide +kernel) rfl rfl rfl (Nat.le_of_ble_eq_true rfl) rfl ?_
  show fhW fhYF Γ 25 [(0, .ref 10)] [.int (fcG (fhI σ 10 2 (f_J9_max_7cf53 ((σ.1 10 2) - (1 : Int32)) (0 : Int32) σ)) 13 (f_J9_max_7cf53 ((σ.1 10 2) - (1 : Int32)) (0 : Int32) σ))] (fhI σ 10 2 (f_J9_max_7cf53 ((σ.1 10 2) - (1 : Int32)) (0 : Int32) σ))
  subst h
  exact fhW.iret hΓ (by decide +kernel) hk
set_option maxRecDepth 100000 in
theorem T_X10_pop {E : fhE} {d : Nat} (hE : fhEok fhYF E) (hd : 1 ≤ d)   (σ : fhM) : fhC fhYF E d miX10_pop [.ref 10] σ (some (.int (f_X10_pop σ).1)) (f_X10_pop σ).2 := by
  refine fhC.of (y := yX10_pop) (cc := cX10_pop) (nL := 1) (ret := (some .int)) 10 rfl (by decide +kernel) (Nat.le_of_ble_eq_true rfl) ?_
  intro Γ hΓ hR hD hEn
  subst hD; subst hEn
  exact L_X10_pop_E hE hΓ hd   σ _ rfl hR
set_option maxRecDepth 100000 in
set_option maxHeartbeats 4000000 in
theorem L_X10_hold_E {Γ : fhX} (hE : fhEok fhYF (fhEn Γ)) (hΓ : fhOk fhYF 10 cX10_hold 2 (some .int) Γ) (hd : 1 ≤ fhD Γ) (v0 : Int64)  (σ : fhM) (o : Int32) (h : f_X10_hold v0 σ = o) (hk : (fun o => fhRet Γ (some (.int o)) σ) o) : fhW fhYF Γ 0 [(0, .long v0)] [] σ := by
  unfold f_X10_hold at h
  refine fhW.blk fhPF fhLL hΓ [(.ldc2_w 109, 0), (.ldc2_w 111, 0), (.lload_n 0, 0)] (pc' := 7) (lv' := [(0, .long v0)]) (st' := [.long v0, .long (1000000 : Int64), .long (-1000000 : Int64)]) (σ' := σ) (by decide +kernel) rfl rfl rfl ?_
  refine fhW.calls hΓ msJ9_min_f86c9 ml_10_113 (av := [.long (1000000 : Int64), .long v0]) (rest := [.long (-1000000 : Int64)]) (r := (some (.long (f_J9_min_f86c9 (1000000 : Int64) v0 σ)))) (σ' := σ) (T_J9_min_f86c9 (E := fhEn Γ) (d := fhD Γ - 1) hE (by omega) (1000000 : Int64) v0 σ) (by omega) (by decide +kernel) rfl (Nat.le_of_ble_eq_true rfl) rfl ?_
  show fhW fhYF Γ 10 [(0, .long v0)] [.long (f_J9_min_f86c9 (1000000 : Int64) v0 σ), .long (-1000000 : Int64)] σ
  refine fhW.calls hΓ msJ9_max_f86c9 ml_10_116 (av := [.long (-1000000 : Int64), .long (f_J9_min_f86c9 (1000000 : Int64) v0 σ)]) (rest := []) (r := (some (.long (f_J9_max_f86c9 (-1000000 : Int64) (f_J9_min_f86c9 (1000000 : Int64) v0 σ) σ)))) (σ' := σ) (T_J9_max_f86c9 (E := fhEn Γ) (d := fhD Γ - 1) hE (by omega) (-1000000 : Int64) (f_J9_min_f86c9 (1000000 : Int64) v0 σ) σ) (by omega) (by decide +kernel) rfl (Nat.le_of_ble_eq_true rfl) rfl ?_
  show fhW fhYF Γ 13 [(0, .long v0)] [.long (f_J9_max_f86c9 (-1000000 : Int64) (f_J9_min_f86c9 (1000000 : Int64) v0 σ) σ)] σ
  refine fhW.blk fhPF fhLL hΓ [(.l2i, 0)] (pc' := 14) (lv' := [(0, .long v0)]) (st' := [.int (Int64.toInt32 (f_J9_max_f86c9 (-1000000 : Int64) (f_J9_min_f86c9 (1000000 : Int64) v0 σ) σ))]) (σ' := σ) (by decide +kernel) rfl rfl rfl ?_
  subst h
  exact fhW.iret hΓ (by decide +kernel) hk
set_option maxRecDepth 100000 in
theorem T_X10_hold {E : fhE} {d : Nat} (hE : fhEok fhYF E) (hd : 1 ≤ d) (v0 : Int64)  (σ : fhM) : fhC fhYF E d miX10_hold [.long v0] σ (some (.int (f_X10_hold v0 σ))) σ := by
  refine fhC.of (y := yX10_hold) (cc := cX10_hold) (nL := 2) (ret := (some .int)) 10 rfl (by decide +kernel) (Nat.le_of_ble_eq_true rfl) ?_
  intro Γ hΓ hR hD hEn
  subst hD; subst hEn
  exact L_X10_hold_E hE hΓ hd v0  σ _ rfl hR
set_option maxRecDepth 100000 in
set_option maxHeartbeats 4000000 in
theorem L_X10_reckon_E {Γ : fhX} (hE : fhEok fhYF (fhEn Γ)) (hΓ : fhOk fhYF 10 cX10_reckon 3 (some .int) Γ) (hd : 2 ≤ fhD Γ) (v0 : Int32) (v1 : Int32) (v2 : Int32)  (σ : fhM) (o : Int32) (h : f_X10_reckon v0 v1 v2 σ = some o) (hk : (fun o => fhRet Γ (some (.int o)) σ) o) : fhW fhYF Γ 0 [(0, .int v0), (1, .int v1), (2, .int v2)] [] σ := by
  unfold f_X10_reckon at h
  refine fhW.blk fhPF fhLL hΓ [(.iload_n 0, 0)] (pc' := 1) (lv' := [(0, .int v0), (1, .int v1), (2, .int v2)]) (st' := [.int v0]) (σ' := σ) (by decide +kernel) rfl rfl rfl ?_
  refine fhW.tsw hΓ (dflt := 82) (lo := 4) (hi := 8) (offs := #[35, 44, 53, 62, 76]) (len := 35) (td := 83) [(4, 36), (5, 45), (6, 54), (7, 63), (8, 77)] (by decide +kernel) ?_
  refine fhsw_c (fun hc => ?_) (fun hc => ?_)
  · rw [if_pos hc] at h
    refine fhW.blk fhPF fhLL hΓ [(.iload_n 1, 0), (.i2l, 0), (.iload_n 2, 0), (.i2l, 0), (.ladd, 0)] (pc' := 41) (lv' := [(0, .int v0), (1, .int v1), (2, .int v2)]) (st' := [.long ((Int32.toInt64 v1) + (Int32.toInt64 v2))]) (σ' := σ) (by decide +kernel) rfl rfl rfl ?_
    refine fhW.calls hΓ msX10_hold ml_10_102 (av := [.long ((Int32.toInt64 v1) + (Int32.toInt64 v2))]) (rest := []) (r := (some (.int (f_X10_hold ((Int32.toInt64 v1) + (Int32.toInt64 v2)) σ)))) (σ' := σ) (T_X10_hold (E := fhEn Γ) (d := fhD Γ - 1) hE (by omega) ((Int32.toInt64 v1) + (Int32.toInt64 v2)) σ) (by omega) (by decide +kernel) rfl (Nat.le_of_ble_eq_true rfl) rfl ?_
    show fhW fhYF Γ 44 [(0, .int v0), (1, .int v1), (2, .int v2)] [.int (f_X10_hold ((Int32.toInt64 v1) + (Int32.toInt64 v2)) σ)] σ
    have e9 := Option.some.inj h
    subst e9
    exact fhW.iret hΓ (by decide +kernel) hk
  rw [if_neg hc] at h
  refine fhsw_c (fun hc => ?_) (fun hc => ?_)
  · rw [if_pos hc] at h
    refine fhW.blk fhPF fhLL hΓ [(.iload_n 1, 0), (.i2l, 0), (.iload_n 2, 0), (.i2l, 0), (.lsub, 0)] (pc' := 50) (lv' := [(0, .int v0), (1, .int v1), (2, .int v2)]) (st' := [.long ((Int32.toInt64 v1) - (Int32.toInt64 v2))]) (σ' := σ) (by decide +kernel) rfl rfl rfl ?_
    refine fhW.calls hΓ msX10_hold ml_10_102 (av := [.long ((Int32.toInt64 v1) - (Int32.toInt64 v2))]) (rest := []) (r := (some (.int (f_X10_hold ((Int32.toInt64 v1) - (Int32.toInt64 v2)) σ)))) (σ' := σ) (T_X10_hold (E := fhEn Γ) (d := fhD Γ - 1) hE (by omega) ((Int32.toInt64 v1) - (Int32.toInt64 v2)) σ) (by omega) (by decide +kernel) rfl (Nat.le_of_ble_eq_true rfl) rfl ?_
    show fhW fhYF Γ 53 [(0, .int v0), (1, .int v1), (2, .int v2)] [.int (f_X10_hold ((Int32.toInt64 v1) - (Int32.toInt64 v2)) σ)] σ
    have e9 := Option.some.inj h
    subst e9
    exact fhW.iret hΓ (by decide +kernel) hk
  rw [if_neg hc] at h
  refine fhsw_c (fun hc => ?_) (fun hc => ?_)
  · rw [if_pos hc] at h
    refine fhW.blk fhPF fhLL hΓ [(.iload_n 1, 0), (.i2l, 0), (.iload_n 2, 0), (.i2l, 0), (.lmul, 0)] (pc' := 59) (lv' := [(0, .int v0), (1, .int v1), (2, .int v2)]) (st' := [.long ((Int32.toInt64 v1) * (Int32.toInt64 v2))]) (σ' := σ) (by decide +kernel) rfl rfl rfl ?_
    refine fhW.calls hΓ msX10_hold ml_10_102 (av := [.long ((Int32.toInt64 v1) * (Int32.toInt64 v2))]) (rest := []) (r := (some (.int (f_X10_hold ((Int32.toInt64 v1) * (Int32.toInt64 v2)) σ)))) (σ' := σ) (T_X10_hold (E := fhEn Γ) (d := fhD Γ - 1) hE (by omega) ((Int32.toInt64 v1) * (Int32.toInt64 v2)) σ) (by omega) (by decide +kernel) rfl (Nat.le_of_ble_eq_true rfl) rfl ?_
    show fhW fhYF Γ 62 [(0, .int v0), (1, .int v1), (2, .int v2)] [.int (f_X10_hold ((Int32.toInt64 v1) * (Int32.toInt64 v2)) σ)] σ
    have e9 := Option.some.inj h
    subst e9
    exact fhW.iret hΓ (by decide +kernel) hk
  rw [if_neg hc] at h
  refine fhsw_c (fun hc => ?_) (fun hc => ?_)
  · rw [if_pos hc] at h
    refine fhW.blk fhPF fhLL hΓ [(.iload_n 2, 0)] (pc' := 64) (lv' := [(0, .int v0), (1, .int v1), (2, .int v2)]) (st' := [.int v2]) (σ' := σ) (by decide +kernel) rfl rfl rfl ?_
    refine fhW.z_ne hΓ (tgt := 71) (show fhbk _ _ (.ifCond .ne (7)) _ = true by decide +kernel) (fun hc => ?_) (fun hc => ?_)
    · rw [if_neg hc] at h
      refine fhW.blk fhPF fhLL hΓ [(.iload_n 1, 0), (.iload_n 2, 0)] (pc' := 73) (lv' := [(0, .int v0), (1, .int v1), (2, .int v2)]) (st' := [.int v2, .int v1]) (σ' := σ) (by decide +kernel) rfl rfl rfl ?_
      obtain ⟨q1, hb1, h⟩ := Option.bind_eq_some_iff.mp h
      refine fhW.calls hΓ msJ9_floorDiv_7cf53 ml_10_106 (av := [.int v1, .int v2]) (rest := []) (r := (some (.int q1))) (σ' := σ) (T_J9_floorDiv_7cf53 (E := fhEn Γ) (d := fhD Γ - 1) hE (by omega) v1 v2 σ hb1) (by omega) (by decide +kernel) rfl (Nat.le_of_ble_eq_true rfl) rfl ?_
      show fhW fhYF Γ 76 [(0, .int v0), (1, .int v1), (2, .int v2)] [.int q1] σ
      have e9 := Option.some.inj h
      subst e9
      exact fhW.iret hΓ (by decide +kernel) hk
    · rw [if_pos hc] at h
      refine fhW.blk fhPF fhLL hΓ [(.iconst 0, 0)] (pc' := 68) (lv' := [(0, .int v0), (1, .int v1), (2, .int v2)]) (st' := [.int (0 : Int32)]) (σ' := σ) (by decide +kernel) rfl rfl rfl ?_
      refine fhW.goto hΓ (off := 8) (tgt := 76) (by decide +kernel) ?_
      have e9 := Option.some.inj h
      subst e9
      exact fhW.iret hΓ (by decide +kernel) hk
  rw [if_neg hc] at h
  refine fhsw_c (fun hc => ?_) (fun hc => ?_)
  · rw [if_pos hc] at h
    refine fhW.blk fhPF fhLL hΓ [(.iload_n 1, 0), (.iload_n 2, 0)] (pc' := 79) (lv' := [(0, .int v0), (1, .int v1), (2, .int v2)]) (st' := [.int v2, .int v1]) (σ' := σ) (by decide +kernel) rfl rfl rfl ?_
    refine fhW.calls hΓ msJ9_min_7cf53 ml_10_40 (av := [.int v1, .int v2]) (rest := []) (r := (some (.int (f_J9_min_7cf53 v1 v2 σ)))) (σ' := σ) (T_J9_min_7cf53 (E := fhEn Γ) (d := fhD Γ - 1) hE (by omega) v1 v2 σ) (by omega) (by decide +kernel) rfl (Nat.le_of_ble_eq_true rfl) rfl ?_
    show fhW fhYF Γ 82 [(0, .int v0), (1, .int v1), (2, .int v2)] [.int (f_J9_min_7cf53 v1 v2 σ)] σ
    have e9 := Option.some.inj h
    subst e9
    exact fhW.iret hΓ (by decide +kernel) hk
  rw [if_neg hc] at h
  refine fhsw_n ?_
  refine fhW.blk fhPF fhLL hΓ [(.iload_n 1, 0), (.iload_n 2, 0)] (pc' := 85) (lv' := [(0, .int v0), (1, .int v1), (2, .int v2)]) (st' := [.int v2, .int v1]) (σ' := σ) (by decide +kernel) rfl rfl rfl ?_
  refine fhW.calls hΓ msJ9_max_7cf53 ml_10_34 (av := [.int v1, .int v2]) (rest := []) (r := (some (.int (f_J9_max_7cf53 v1 v2 σ)))) (σ' := σ) (T_J9_max_7cf53 (E := fhEn Γ) (d := fhD Γ - 1) hE (by omega) v1 v2 σ) (by omega) (by decide +kernel) rfl (Nat.le_of_ble_eq_true rfl) rfl ?_
  show fhW fhYF Γ 88 [(0, .int v0), (1, .int v1), (2, .int v2)] [.int (f_J9_max_7cf53 v1 v2 σ)] σ
  have e9 := Option.some.inj h
  subst e9
  exact fhW.iret hΓ (by decide +kernel) hk
set_option maxRecDepth 100000 in
theorem T_X10_reckon {E : fhE} {d : Nat} (hE : fhEok fhYF E) (hd : 2 ≤ d) (v0 : Int32) (v1 : Int32) (v2 : Int32)  (σ : fhM) {o : Int32} (h : f_X10_reckon v0 v1 v2 σ = some o) : fhC fhYF E d miX10_reckon [.int v0, .int v1, .int v2] σ (some (.int o)) σ := by
  refine fhC.of (y := yX10_reckon) (cc := cX10_reckon) (nL := 3) (ret := (some .int)) 10 rfl (by decide +kernel) (Nat.le_of_ble_eq_true rfl) ?_
  intro Γ hΓ hR hD hEn
  subst hD; subst hEn
  exact L_X10_reckon_E hE hΓ hd v0 v1 v2  σ _ h hR

