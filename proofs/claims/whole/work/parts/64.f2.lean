set_option maxRecDepth 100000 in
set_option maxHeartbeats 4000000 in
theorem L_X10_fillFromRow_120 {Γ : fhX} (hE : fhEok fhYF (fhEn Γ)) (hΓ : fhOk fhYF 10 cX10_fillFromRow 10 none Γ) (hd : 2 ≤ fhD Γ) (v2 : Int32) (v5 : Int32) (v6 : Int32) (v7 : Int32)  (σ : fhM) (o : fhM) (h : f_X10_fillFromRow_120 v2 v5 v6 v7 σ = some o) (hk : (fun o => fhRet Γ none o) o) : fhW fhYF Γ 120 [(0, .ref 10), (2, .int v2), (5, .int v5), (6, .int v6), (7, .int v7)] [] σ := by
  unfold f_X10_fillFromRow_120 at h
  refine fhW.blk fhPF fhLL hΓ [(.aload_n 0, 0), (.getfield 14, 0), (.iconst 5, 5), (.iload 5, 0)] (pc' := 127) (lv' := [(0, .ref 10), (2, .int v2), (5, .int v5), (6, .int v6), (7, .int v7)]) (st' := [.int v5, .int (5 : Int32), .ref 11]) (σ' := σ) (by decide +kernel) rfl rfl rfl ?_
  refine fhW.callv hΓ mvX2_put ml_10_26 (t := 11) (ci := 2) (av := [.int (5 : Int32), .int v5]) (rest := []) (r := none) (σ' := (fcP σ 11 (5 : Int32) v5)) (T_X2_put (E := fhEn Γ) (d := fhD Γ - 1) hE (by omega) 11 (5 : Int32) v5 rfl σ) (by omega) (by decide +kernel) rfl rfl rfl (Nat.le_of_ble_eq_true rfl) rfl ?_
  show fhW fhYF Γ 130 [(0, .ref 10), (2, .int v2), (5, .int v5), (6, .int v6), (7, .int v7)] [] (fcP σ 11 (5 : Int32) v5)
  refine fhW.blk fhPF fhLL hΓ [(.aload_n 0, 0), (.getfield 14, 0), (.bipush 6, 6), (.iload 6, 0)] (pc' := 138) (lv' := [(0, .ref 10), (2, .int v2), (5, .int v5), (6, .int v6), (7, .int v7)]) (st' := [.int v6, .int (6 : Int32), .ref 11]) (σ' := (fcP σ 11 (5 : Int32) v5)) (by decide +kernel) rfl rfl rfl ?_
  refine fhW.callv hΓ mvX2_put ml_10_26 (t := 11) (ci := 2) (av := [.int (6 : Int32), .int v6]) (rest := []) (r := none) (σ' := (fcP (fcP σ 11 (5 : Int32) v5) 11 (6 : Int32) v6)) (T_X2_put (E := fhEn Γ) (d := fhD Γ - 1) hE (by omega) 11 (6 : Int32) v6 rfl (fcP σ 11 (5 : Int32) v5)) (by omega) (by decide +kernel) rfl rfl rfl (Nat.le_of_ble_eq_true rfl) rfl ?_
  show fhW fhYF Γ 141 [(0, .ref 10), (2, .int v2), (5, .int v5), (6, .int v6), (7, .int v7)] [] (fcP (fcP σ 11 (5 : Int32) v5) 11 (6 : Int32) v6)
  refine fhW.blk fhPF fhLL hΓ [(.aload_n 0, 0), (.getfield 14, 0), (.bipush 7, 7), (.iload 7, 0)] (pc' := 149) (lv' := [(0, .ref 10), (2, .int v2), (5, .int v5), (6, .int v6), (7, .int v7)]) (st' := [.int v7, .int (7 : Int32), .ref 11]) (σ' := (fcP (fcP σ 11 (5 : Int32) v5) 11 (6 : Int32) v6)) (by decide +kernel) rfl rfl rfl ?_
  refine fhW.callv hΓ mvX2_put ml_10_26 (t := 11) (ci := 2) (av := [.int (7 : Int32), .int v7]) (rest := []) (r := none) (σ' := (fcP (fcP (fcP σ 11 (5 : Int32) v5) 11 (6 : Int32) v6) 11 (7 : Int32) v7)) (T_X2_put (E := fhEn Γ) (d := fhD Γ - 1) hE (by omega) 11 (7 : Int32) v7 rfl (fcP (fcP σ 11 (5 : Int32) v5) 11 (6 : Int32) v6)) (by omega) (by decide +kernel) rfl rfl rfl (Nat.le_of_ble_eq_true rfl) rfl ?_
  show fhW fhYF Γ 152 [(0, .ref 10), (2, .int v2), (5, .int v5), (6, .int v6), (7, .int v7)] [] (fcP (fcP (fcP σ 11 (5 : Int32) v5) 11 (6 : Int32) v6) 11 (7 : Int32) v7)
  refine fhW.blk fhPF fhLL hΓ [(.aload_n 0, 0), (.getfield 14, 0), (.bipush 8, 8), (.aload_n 0, 0), (.iload_n 2, 0)] (pc' := 160) (lv' := [(0, .ref 10), (2, .int v2), (5, .int v5), (6, .int v6), (7, .int v7)]) (st' := [.int v2, .ref 10, .int (8 : Int32), .ref 11]) (σ' := (fcP (fcP (fcP σ 11 (5 : Int32) v5) 11 (6 : Int32) v6) 11 (7 : Int32) v7)) (by decide +kernel) rfl rfl rfl ?_
  obtain ⟨q1, hb1, h⟩ := Option.bind_eq_some_iff.mp h
  refine fhW.callv hΓ mvX10_countKinds ml_10_43 (t := 10) (ci := 10) (av := [.int v2]) (rest := [.int (8 : Int32), .ref 11]) (r := (some (.int q1))) (σ' := (fcP (fcP (fcP σ 11 (5 : Int32) v5) 11 (6 : Int32) v6) 11 (7 : Int32) v7)) (T_X10_countKinds (E := fhEn Γ) (d := fhD Γ - 1) hE (by omega) v2 (fcP (fcP (fcP σ 11 (5 : Int32) v5) 11 (6 : Int32) v6) 11 (7 : Int32) v7) hb1) (by omega) (by decide +kernel) rfl rfl rfl (Nat.le_of_ble_eq_true rfl) rfl ?_
  show fhW fhYF Γ 163 [(0, .ref 10), (2, .int v2), (5, .int v5), (6, .int v6), (7, .int v7)] [.int q1, .int (8 : Int32), .ref 11] (fcP (fcP (fcP σ 11 (5 : Int32) v5) 11 (6 : Int32) v6) 11 (7 : Int32) v7)
  refine fhW.callv hΓ mvX2_put ml_10_26 (t := 11) (ci := 2) (av := [.int (8 : Int32), .int q1]) (rest := []) (r := none) (σ' := (fcP (fcP (fcP (fcP σ 11 (5 : Int32) v5) 11 (6 : Int32) v6) 11 (7 : Int32) v7) 11 (8 : Int32) q1)) (T_X2_put (E := fhEn Γ) (d := fhD Γ - 1) hE (by omega) 11 (8 : Int32) q1 rfl (fcP (fcP (fcP σ 11 (5 : Int32) v5) 11 (6 : Int32) v6) 11 (7 : Int32) v7)) (by omega) (by decide +kernel) rfl rfl rfl (Nat.le_of_ble_eq_true rfl) rfl ?_
  show fhW fhYF Γ 166 [(0, .ref 10), (2, .int v2), (5, .int v5), (6, .int v6), (7, .int v7)] [] (fcP (fcP (fcP (fcP σ 11 (5 : Int32) v5) 11 (6 : Int32) v6) 11 (7 : Int32) v7) 11 (8 : Int32) q1)
  have e9 := Option.some.inj h
  subst e9
  exact fhW.vret hΓ (by decide +kernel) hk
set_option maxRecDepth 100000 in
set_option maxHeartbeats 4000000 in
theorem L_X10_fillFromRow_30 {Γ : fhX} (hE : fhEok fhYF (fhEn Γ)) (hΓ : fhOk fhYF 10 cX10_fillFromRow 10 none Γ) (hd : 2 ≤ fhD Γ) (v2 : Int32) (v3 : Int32) (v4 : Int32) (v5 : Int32) (v6 : Int32) (v7 : Int32) (v8 : Int32)  (σ : fhM) (o : (Int32 × Int32 × Int32 × Int32 × Int32 × fhM) ⊕ (fhM)) (h : f_X10_fillFromRow_30 v2 v3 v4 v5 v6 v7 v8 σ = some o) (hk : (fhK (fun x => fhW fhYF Γ 30 [(0, .ref 10), (2, .int v2), (3, .int v3), (4, .int x.1), (5, .int x.2.1), (6, .int x.2.2.1), (7, .int x.2.2.2.1), (8, .int x.2.2.2.2.1)] [] x.2.2.2.2.2) (fun o => fhRet Γ none o)) o) : fhW fhYF Γ 30 [(0, .ref 10), (2, .int v2), (3, .int v3), (4, .int v4), (5, .int v5), (6, .int v6), (7, .int v7), (8, .int v8)] [] σ := by
  unfold f_X10_fillFromRow_30 at h
  refine fhW.blk fhPF fhLL hΓ [(.iload 8, 0), (.iload_n 3, 0)] (pc' := 33) (lv' := [(0, .ref 10), (2, .int v2), (3, .int v3), (4, .int v4), (5, .int v5), (6, .int v6), (7, .int v7), (8, .int v8)]) (st' := [.int v3, .int v8]) (σ' := σ) (by decide +kernel) rfl rfl rfl ?_
  refine fhW.i_ge hΓ (tgt := 120) (show fhbk _ _ (.if_icmp .ge (87)) _ = true by decide +kernel) (fun hc => ?_) (fun hc => ?_)
  · rw [if_pos hc] at h
    refine fhW.sub (lv' := [(0, .ref 10), (2, .int v2), (5, .int v5), (6, .int v6), (7, .int v7)]) [0, 1, 4, 5, 6] rfl ?_
    obtain ⟨z1, hz, e1⟩ := Option.map_eq_some_iff.mp h
    clear h
    subst e1
    have h := hz
    have hk : (fun o => fhRet Γ none o) z1 := hk
    exact L_X10_fillFromRow_120 hE hΓ hd v2 v5 v6 v7 σ _ h hk
  · rw [if_neg hc] at h
    refine fhW.blk fhPF fhLL hΓ [(.iload_n 2, 0)] (pc' := 37) (lv' := [(0, .ref 10), (2, .int v2), (3, .int v3), (4, .int v4), (5, .int v5), (6, .int v6), (7, .int v7), (8, .int v8)]) (st' := [.int v2]) (σ' := σ) (by decide +kernel) rfl rfl rfl ?_
    refine fhW.z_le hΓ (tgt := 120) (show fhbk _ _ (.ifCond .le (83)) _ = true by decide +kernel) (fun hc => ?_) (fun hc => ?_)
    · rw [if_pos hc] at h
      refine fhW.sub (lv' := [(0, .ref 10), (2, .int v2), (5, .int v5), (6, .int v6), (7, .int v7)]) [0, 1, 4, 5, 6] rfl ?_
      obtain ⟨z2, hz, e2⟩ := Option.map_eq_some_iff.mp h
      clear h
      subst e2
      have h := hz
      have hk : (fun o => fhRet Γ none o) z2 := hk
      exact L_X10_fillFromRow_120 hE hΓ hd v2 v5 v6 v7 σ _ h hk
    · rw [if_neg hc] at h
      obtain ⟨hg1, h⟩ := fhif h
      refine fhW.blk fhPF fhLL hΓ [(.iload 4, 0), (.iload_n 2, 0), (.irem, 0), (.istore 9, 0), (.iload 4, 0), (.iload_n 2, 0), (.idiv, 0), (.istore 4, 0), (.aload_n 0, 0), (.getfield 14, 0), (.iload 8, 0), (.iload 9, 0)] (pc' := 60) (lv' := [(4, .int (v4 / v2)), (9, .int (fhrem v4 v2)), (0, .ref 10), (2, .int v2), (3, .int v3), (5, .int v5), (6, .int v6), (7, .int v7), (8, .int v8)]) (st' := [.int (fhrem v4 v2), .int v8, .ref 11]) (σ' := σ) (by decide +kernel) rfl rfl hg1 ?_
      refine fhW.callv hΓ mvX2_put ml_10_26 (t := 11) (ci := 2) (av := [.int v8, .int (fhrem v4 v2)]) (rest := []) (r := none) (σ' := (fcP σ 11 v8 (fhrem v4 v2))) (T_X2_put (E := fhEn Γ) (d := fhD Γ - 1) hE (by omega) 11 v8 (fhrem v4 v2) rfl σ) (by omega) (by decide +kernel) rfl rfl rfl (Nat.le_of_ble_eq_true rfl) rfl ?_
      show fhW fhYF Γ 63 [(4, .int (v4 / v2)), (9, .int (fhrem v4 v2)), (0, .ref 10), (2, .int v2), (3, .int v3), (5, .int v5), (6, .int v6), (7, .int v7), (8, .int v8)] [] (fcP σ 11 v8 (fhrem v4 v2))
      refine fhW.blk fhPF fhLL hΓ [(.aload_n 0, 0), (.getfield 14, 0), (.bipush 15, 15), (.iload 9, 0), (.iadd, 0), (.aload_n 0, 0), (.getfield 14, 0), (.bipush 15, 15), (.iload 9, 0), (.iadd, 0)] (pc' := 81) (lv' := [(4, .int (v4 / v2)), (9, .int (fhrem v4 v2)), (0, .ref 10), (2, .int v2), (3, .int v3), (5, .int v5), (6, .int v6), (7, .int v7), (8, .int v8)]) (st' := [.int ((15 : Int32) + (fhrem v4 v2)), .ref 11, .int ((15 : Int32) + (fhrem v4 v2)), .ref 11]) (σ' := (fcP σ 11 v8 (fhrem v4 v2))) (by decide +kernel) rfl rfl rfl ?_
      refine fhW.callv hΓ mvX2_get ml_10_30 (t := 11) (ci := 2) (av := [.int ((15 : Int32) + (fhrem v4 v2))]) (rest := [.int ((15 : Int32) + (fhrem v4 v2)), .ref 11]) (r := (some (.int (fcG (fcP σ 11 v8 (fhrem v4 v2)) 11 ((15 : Int32) + (fhrem v4 v2)))))) (σ' := (fcP σ 11 v8 (fhrem v4 v2))) (T_X2_get (E := fhEn Γ) (d := fhD Γ - 1) hE (by omega) 11 ((15 : Int32) + (fhrem v4 v2)) rfl (fcP σ 11 v8 (fhrem v4 v2))) (by omega) (by decide +kernel) rfl rfl rfl (Nat.le_of_ble_eq_true rfl) rfl ?_
      show fhW fhYF Γ 84 [(4, .int (v4 / v2)), (9, .int (fhrem v4 v2)), (0, .ref 10), (2, .int v2), (3, .int v3), (5, .int v5), (6, .int v6), (7, .int v7), (8, .int v8)] [.int (fcG (fcP σ 11 v8 (fhrem v4 v2)) 11 ((15 : Int32) + (fhrem v4 v2))), .int ((15 : Int32) + (fhrem v4 v2)), .ref 11] (fcP σ 11 v8 (fhrem v4 v2))
      refine fhW.blk fhPF fhLL hΓ [(.iconst 1, 1), (.iadd, 0)] (pc' := 86) (lv' := [(4, .int (v4 / v2)), (9, .int (fhrem v4 v2)), (0, .ref 10), (2, .int v2), (3, .int v3), (5, .int v5), (6, .int v6), (7, .int v7), (8, .int v8)]) (st' := [.int ((fcG (fcP σ 11 v8 (fhrem v4 v2)) 11 ((15 : Int32) + (fhrem v4 v2))) + (1 : Int32)), .int ((15 : Int32) + (fhrem v4 v2)), .ref 11]) (σ' := (fcP σ 11 v8 (fhrem v4 v2))) (by decide +kernel) rfl rfl rfl ?_
      refine fhW.callv hΓ mvX2_put ml_10_26 (t := 11) (ci := 2) (av := [.int ((15 : Int32) + (fhrem v4 v2)), .int ((fcG (fcP σ 11 v8 (fhrem v4 v2)) 11 ((15 : Int32) + (fhrem v4 v2))) + (1 : Int32))]) (rest := []) (r := none) (σ' := (fcP (fcP σ 11 v8 (fhrem v4 v2)) 11 ((15 : Int32) + (fhrem v4 v2)) ((fcG (fcP σ 11 v8 (fhrem v4 v2)) 11 ((15 : Int32) + (fhrem v4 v2))) + (1 : Int32)))) (T_X2_put (E := fhEn Γ) (d := fhD Γ - 1) hE (by omega) 11 ((15 : Int32) + (fhrem v4 v2)) ((fcG (fcP σ 11 v8 (fhrem v4 v2)) 11 ((15 : Int32) + (fhrem v4 v2))) + (1 : Int32)) rfl (fcP σ 11 v8 (fhrem v4 v2))) (by omega) (by decide +kernel) rfl rfl rfl (Nat.le_of_ble_eq_true rfl) rfl ?_
      show fhW fhYF Γ 89 [(4, .int (v4 / v2)), (9, .int (fhrem v4 v2)), (0, .ref 10), (2, .int v2), (3, .int v3), (5, .int v5), (6, .int v6), (7, .int v7), (8, .int v8)] [] (fcP (fcP σ 11 v8 (fhrem v4 v2)) 11 ((15 : Int32) + (fhrem v4 v2)) ((fcG (fcP σ 11 v8 (fhrem v4 v2)) 11 ((15 : Int32) + (fhrem v4 v2))) + (1 : Int32)))
      refine fhW.blk fhPF fhLL hΓ [(.iload 5, 0), (.iload 9, 0), (.iadd, 0), (.istore 5, 0), (.iload 6, 0), (.iload 9, 0)] (pc' := 100) (lv' := [(5, .int (v5 + (fhrem v4 v2))), (4, .int (v4 / v2)), (9, .int (fhrem v4 v2)), (0, .ref 10), (2, .int v2), (3, .int v3), (6, .int v6), (7, .int v7), (8, .int v8)]) (st' := [.int (fhrem v4 v2), .int v6]) (σ' := (fcP (fcP σ 11 v8 (fhrem v4 v2)) 11 ((15 : Int32) + (fhrem v4 v2)) ((fcG (fcP σ 11 v8 (fhrem v4 v2)) 11 ((15 : Int32) + (fhrem v4 v2))) + (1 : Int32)))) (by decide +kernel) rfl rfl rfl ?_
      refine fhW.calls hΓ msJ9_max_7cf53 ml_10_34 (av := [.int v6, .int (fhrem v4 v2)]) (rest := []) (r := (some (.int (f_J9_max_7cf53 v6 (fhrem v4 v2) (fcP (fcP σ 11 v8 (fhrem v4 v2)) 11 ((15 : Int32) + (fhrem v4 v2)) ((fcG (fcP σ 11 v8 (fhrem v4 v2)) 11 ((15 : Int32) + (fhrem v4 v2))) + (1 : Int32))))))) (σ' := (fcP (fcP σ 11 v8 (fhrem v4 v2)) 11 ((15 : Int32) + (fhrem v4 v2)) ((fcG (fcP σ 11 v8 (fhrem v4 v2)) 11 ((15 : Int32) + (fhrem v4 v2))) + (1 : Int32)))) (T_J9_max_7cf53 (E := fhEn Γ) (d := fhD Γ - 1) hE (by omega) v6 (fhrem v4 v2) (fcP (fcP σ 11 v8 (fhrem v4 v2)) 11 ((15 : Int32) + (fhrem v4 v2)) ((fcG (fcP σ 11 v8 (fhrem v4 v2)) 11 ((15 : Int32) + (fhrem v4 v2))) + (1 : Int32)))) (by omega) (by decide +kernel) rfl (Nat.le_of_ble_eq_true rfl) rfl ?_
      show fhW fhYF Γ 103 [(5, .int (v5 + (fhrem v4 v2))), (4, .int (v4 / v2)), (9, .int (fhrem v4 v2)), (0, .ref 10), (2, .int v2), (3, .int v3), (6, .int v6), (7, .int v7), (8, .int v8)] [.int (f_J9_max_7cf53 v6 (fhrem v4 v2) (fcP (fcP σ 11 v8 (fhrem v4 v2)) 11 ((15 : Int32) + (fhrem v4 v2)) ((fcG (fcP σ 11 v8 (fhrem v4 v2)) 11 ((15 : Int32) + (fhrem v4 v2))) + (1 : Int32))))] (fcP (fcP σ 11 v8 (fhrem v4 v2)) 11 ((15 : Int32) + (fhrem v4 v2)) ((fcG (fcP σ 11 v8 (fhrem v4 v2)) 11 ((15 : Int32) + (fhrem v4 v2))) + (1 : Int32)))
      refine fhW.blk fhPF fhLL hΓ [(.istore 6, 0)] (pc' := 105) (lv' := [(6, .int (f_J9_max_7cf53 v6 (fhrem v4 v2) (fcP (fcP σ 11 v8 (fhrem v4 v2)) 11 ((15 : Int32) + (fhrem v4 v2)) ((fcG (fcP σ 11 v8 (fhrem v4 v2)) 11 ((15 : Int32) + (fhrem v4 v2))) + (1 : Int32))))), (5, .int (v5 + (fhrem v4 v2))), (4, .int (v4 / v2)), (9, .int (fhrem v4 v2)), (0, .ref 10), (2, .int v2), (3, .int v3), (7, .int v7), (8, .int v8)]) (st' := []) (σ' := (fcP (fcP σ 11 v8 (fhrem v4 v2)) 11 ((15 : Int32) + (fhrem v4 v2)) ((fcG (fcP σ 11 v8 (fhrem v4 v2)) 11 ((15 : Int32) + (fhrem v4 v2))) + (1 : Int32)))) (by decide +kernel) rfl rfl rfl ?_
      obtain ⟨w6_1, e3, h⟩ := fhlet_elim h
      rw [← e3]
      refine fhW.blk fhPF fhLL hΓ [(.iload 7, 0), (.iload 9, 0)] (pc' := 109) (lv' := [(6, .int w6_1), (5, .int (v5 + (fhrem v4 v2))), (4, .int (v4 / v2)), (9, .int (fhrem v4 v2)), (0, .ref 10), (2, .int v2), (3, .int v3), (7, .int v7), (8, .int v8)]) (st' := [.int (fhrem v4 v2), .int v7]) (σ' := (fcP (fcP σ 11 v8 (fhrem v4 v2)) 11 ((15 : Int32) + (fhrem v4 v2)) ((fcG (fcP σ 11 v8 (fhrem v4 v2)) 11 ((15 : Int32) + (fhrem v4 v2))) + (1 : Int32)))) (by decide +kernel) rfl rfl rfl ?_
      refine fhW.calls hΓ msJ9_min_7cf53 ml_10_40 (av := [.int v7, .int (fhrem v4 v2)]) (rest := []) (r := (some (.int (f_J9_min_7cf53 v7 (fhrem v4 v2) (fcP (fcP σ 11 v8 (fhrem v4 v2)) 11 ((15 : Int32) + (fhrem v4 v2)) ((fcG (fcP σ 11 v8 (fhrem v4 v2)) 11 ((15 : Int32) + (fhrem v4 v2))) + (1 : Int32))))))) (σ' := (fcP (fcP σ 11 v8 (fhrem v4 v2)) 11 ((15 : Int32) + (fhrem v4 v2)) ((fcG (fcP σ 11 v8 (fhrem v4 v2)) 11 ((15 : Int32) + (fhrem v4 v2))) + (1 : Int32)))) (T_J9_min_7cf53 (E := fhEn Γ) (d := fhD Γ - 1) hE (by omega) v7 (fhrem v4 v2) (fcP (fcP σ 11 v8 (fhrem v4 v2)) 11 ((15 : Int32) + (fhrem v4 v2)) ((fcG (fcP σ 11 v8 (fhrem v4 v2)) 11 ((15 : Int32) + (fhrem v4 v2))) + (1 : Int32)))) (by omega) (by decide +kernel) rfl (Nat.le_of_ble_eq_true rfl) rfl ?_
      show fhW fhYF Γ 112 [(6, .int w6_1), (5, .int (v5 + (fhrem v4 v2))), (4, .int (v4 / v2)), (9, .int (fhrem v4 v2)), (0, .ref 10), (2, .int v2), (3, .int v3), (7, .int v7), (8, .int v8)] [.int (f_J9_min_7cf53 v7 (fhrem v4 v2) (fcP (fcP σ 11 v8 (fhrem v4 v2)) 11 ((15 : Int32) + (fhrem v4 v2)) ((fcG (fcP σ 11 v8 (fhrem v4 v2)) 11 ((15 : Int32) + (fhrem v4 v2))) + (1 : Int32))))] (fcP (fcP σ 11 v8 (fhrem v4 v2)) 11 ((15 : Int32) + (fhrem v4 v2)) ((fcG (fcP σ 11 v8 (fhrem v4 v2)) 11 ((15 : Int32) + (fhrem v4 v2))) + (1 : Int32)))
      refine fhW.blk fhPF fhLL hΓ [(.istore 7, 0)] (pc' := 114) (lv' := [(7, .int (f_J9_min_7cf53 v7 (fhrem v4 v2) (fcP (fcP σ 11 v8 (fhrem v4 v2)) 11 ((15 : Int32) + (fhrem v4 v2)) ((fcG (fcP σ 11 v8 (fhrem v4 v2)) 11 ((15 : Int32) + (fhrem v4 v2))) + (1 : Int32))))), (6, .int w6_1), (5, .int (v5 + (fhrem v4 v2))), (4, .int (v4 / v2)), (9, .int (fhrem v4 v2)), (0, .ref 10), (2, .int v2), (3, .int v3), (8, .int v8)]) (st' := []) (σ' := (fcP (fcP σ 11 v8 (fhrem v4 v2)) 11 ((15 : Int32) + (fhrem v4 v2)) ((fcG (fcP σ 11 v8 (fhrem v4 v2)) 11 ((15 : Int32) + (fhrem v4 v2))) + (1 : Int32)))) (by decide +kernel) rfl rfl rfl ?_
      obtain ⟨w7_1, e4, h⟩ := fhlet_elim h
      rw [← e4]
      refine fhW.blk fhPF fhLL hΓ [(.iinc 8 1, 1)] (pc' := 117) (lv' := [(8, .int (v8 + (1 : Int32))), (7, .int w7_1), (6, .int w6_1), (5, .int (v5 + (fhrem v4 v2))), (4, .int (v4 / v2)), (9, .int (fhrem v4 v2)), (0, .ref 10), (2, .int v2), (3, .int v3)]) (st' := []) (σ' := (fcP (fcP σ 11 v8 (fhrem v4 v2)) 11 ((15 : Int32) + (fhrem v4 v2)) ((fcG (fcP σ 11 v8 (fhrem v4 v2)) 11 ((15 : Int32) + (fhrem v4 v2))) + (1 : Int32)))) (by decide +kernel) rfl rfl rfl ?_
      refine fhW.goto hΓ (off := (-87)) (tgt := 30) (by decide +kernel) ?_
      refine fhW.sub (lv' := [(0, .ref 10), (2, .int v2), (3, .int v3), (4, .int (v4 / v2)), (5, .int (v5 + (fhrem v4 v2))), (6, .int w6_1), (7, .int w7_1), (8, .int (v8 + (1 : Int32)))]) [6, 7, 8, 4, 3, 2, 1, 0] rfl ?_
      have e9 := Option.some.inj h
      subst e9
      exact hk
set_option maxRecDepth 100000 in
set_option maxHeartbeats 4000000 in
theorem L_X10_fillFromRow_25 {Γ : fhX} (hE : fhEok fhYF (fhEn Γ)) (hΓ : fhOk fhYF 10 cX10_fillFromRow 10 none Γ) (hd : 2 ≤ fhD Γ) (v2 : Int32) (v3 : Int32) (v4 : Int32) (v5 : Int32) (v6 : Int32) (s0 : Int32)  (σ : fhM) (o : fhM) (h : f_X10_fillFromRow_25 v2 v3 v4 v5 v6 s0 σ = some o) (hk : (fun o => fhRet Γ none o) o) : fhW fhYF Γ 25 [(0, .ref 10), (2, .int v2), (3, .int v3), (4, .int v4), (5, .int v5), (6, .int v6)] [.int s0] σ := by
  unfold f_X10_fillFromRow_25 at h
  refine fhW.blk fhPF fhLL hΓ [(.istore 7, 0), (.iconst 0, 0), (.istore 8, 0)] (pc' := 30) (lv' := [(8, .int (0 : Int32)), (7, .int s0), (0, .ref 10), (2, .int v2), (3, .int v3), (4, .int v4), (5, .int v5), (6, .int v6)]) (st' := []) (σ' := σ) (by decide +kernel) rfl rfl rfl ?_
  refine fhW.sub (lv' := [(0, .ref 10), (2, .int v2), (3, .int v3), (4, .int v4), (5, .int v5), (6, .int v6), (7, .int s0), (8, .int (0 : Int32))]) [2, 3, 4, 5, 6, 7, 1, 0] rfl ?_
  exact fhlp_ok (W := (fun x => fhW fhYF Γ 30 [(0, .ref 10), (2, .int v2), (3, .int v3), (4, .int x.1), (5, .int x.2.1), (6, .int x.2.2.1), (7, .int x.2.2.2.1), (8, .int x.2.2.2.2.1)] [] x.2.2.2.2.2)) (B := (fun o => fhRet Γ none o)) (fun x o h hk => L_X10_fillFromRow_30 hE hΓ hd v2 v3 x.1 x.2.1 x.2.2.1 x.2.2.2.1 x.2.2.2.2.1 x.2.2.2.2.2 o h hk) (v4, v5, v6, s0, (0 : Int32), σ) _ h hk
set_option maxRecDepth 100000 in
set_option maxHeartbeats 4000000 in
theorem L_X10_fillFromRow_E {Γ : fhX} (hE : fhEok fhYF (fhEn Γ)) (hΓ : fhOk fhYF 10 cX10_fillFromRow 10 none Γ) (hd : 2 ≤ fhD Γ) (v1 : Int32) (v2 : Int32) (v3 : Int32)  (σ : fhM) (o : fhM) (h : f_X10_fillFromRow v1 v2 v3 σ = some o) (hk : (fun o => fhRet Γ none o) o) : fhW fhYF Γ 0 [(0, .ref 10), (1, .int v1), (2, .int v2), (3, .int v3)] [] σ := by
  unfold f_X10_fillFromRow at h
  refine fhW.blk fhPF fhLL hΓ [(.aload_n 0, 0), (.getfield 14, 0)] (pc' := 4) (lv' := [(0, .ref 10), (1, .int v1), (2, .int v2), (3, .int v3)]) (st' := [.ref 11]) (σ' := σ) (by decide +kernel) rfl rfl rfl ?_
  refine fhW.callv hΓ mvX2_wipe ml_10_23 (t := 11) (ci := 2) (av := []) (rest := []) (r := none) (σ' := (fcW σ 11)) (T_X2_wipe (E := fhEn Γ) (d := fhD Γ - 1) hE (by omega) 11 rfl σ) (by omega) (by decide +kernel) rfl rfl rfl (Nat.le_of_ble_eq_true rfl) rfl ?_
  show fhW fhYF Γ 7 [(0, .ref 10), (1, .int v1), (2, .int v2), (3, .int v3)] [] (fcW σ 11)
  refine fhW.blk fhPF fhLL hΓ [(.iload_n 1, 0), (.istore 4, 0), (.iconst 0, 0), (.istore 5, 0), (.iconst 0, 0), (.istore 6, 0), (.iload_n 3, 0)] (pc' := 17) (lv' := [(6, .int (0 : Int32)), (5, .int (0 : Int32)), (4, .int v1), (0, .ref 10), (1, .int v1), (2, .int v2), (3, .int v3)]) (st' := [.int v3]) (σ' := (fcW σ 11)) (by decide +kernel) rfl rfl rfl ?_
  refine fhW.z_le hΓ (tgt := 24) (show fhbk _ _ (.ifCond .le (7)) _ = true by decide +kernel) (fun hc => ?_) (fun hc => ?_)
  · simp only [if_pos hc] at h
    refine fhW.blk fhPF fhLL hΓ [(.iconst 0, 0)] (pc' := 25) (lv' := [(6, .int (0 : Int32)), (5, .int (0 : Int32)), (4, .int v1), (0, .ref 10), (1, .int v1), (2, .int v2), (3, .int v3)]) (st' := [.int (0 : Int32)]) (σ' := (fcW σ 11)) (by decide +kernel) rfl rfl rfl ?_
    refine fhW.sub (lv' := [(0, .ref 10), (2, .int v2), (3, .int v3), (4, .int v1), (5, .int (0 : Int32)), (6, .int (0 : Int32))]) [3, 5, 6, 2, 1, 0] rfl ?_
    exact L_X10_fillFromRow_25 hE hΓ hd v2 v3 v1 (0 : Int32) (0 : Int32) (0 : Int32) (fcW σ 11) _ h hk
  · simp only [if_neg hc] at h
    refine fhW.blk fhPF fhLL hΓ [(.iload_n 2, 0)] (pc' := 21) (lv' := [(6, .int (0 : Int32)), (5, .int (0 : Int32)), (4, .int v1), (0, .ref 10), (1, .int v1), (2, .int v2), (3, .int v3)]) (st' := [.int v2]) (σ' := (fcW σ 11)) (by decide +kernel) rfl rfl rfl ?_
    refine fhW.goto hΓ (off := 4) (tgt := 25) (by decide +kernel) ?_
    refine fhW.sub (lv' := [(0, .ref 10), (2, .int v2), (3, .int v3), (4, .int v1), (5, .int (0 : Int32)), (6, .int (0 : Int32))]) [3, 5, 6, 2, 1, 0] rfl ?_
    exact L_X10_fillFromRow_25 hE hΓ hd v2 v3 v1 (0 : Int32) (0 : Int32) v2 (fcW σ 11) _ h hk
set_option maxRecDepth 100000 in
theorem T_X10_fillFromRow {E : fhE} {d : Nat} (hE : fhEok fhYF E) (hd : 2 ≤ d) (v1 : Int32) (v2 : Int32) (v3 : Int32)  (σ : fhM) {o : fhM} (h : f_X10_fillFromRow v1 v2 v3 σ = some o) : fhC fhYF E d miX10_fillFromRow [.ref 10, .int v1, .int v2, .int v3] σ none o := by
  refine fhC.of (y := yX10_fillFromRow) (cc := cX10_fillFromRow) (nL := 10) (ret := none) 10 rfl (by decide +kernel) (Nat.le_of_ble_eq_true rfl) ?_
  intro Γ hΓ hR hD hEn
  subst hD; subst hEn
  exact L_X10_fillFromRow_E hE hΓ hd v1 v2 v3  σ _ h hR
set_option maxRecDepth 100000 in
set_option maxHeartbeats 4000000 in
theorem L_X10_push_E {Γ : fhX} (hE : fhEok fhYF (fhEn Γ)) (hΓ : fhOk fhYF 10 cX10_push 2 none Γ) (hd : 1 ≤ fhD Γ) (v1 : Int32)  (σ : fhM) (o : fhM) (h : f_X10_push v1 σ = o) (hk : (fun o => fhRet Γ none o) o) : fhW fhYF Γ 0 [(0, .ref 10), (1, .int v1)] [] σ := by
  unfold f_X10_push at h
  refine fhW.blk fhPF fhLL hΓ [(.aload_n 0, 0), (.getfield 20, 0), (.aload_n 0, 0), (.getfield 77, 0), (.iload_n 1, 0)] (pc' := 9) (lv' := [(0, .ref 10), (1, .int v1)]) (st' := [.int v1, .int (σ.1 10 2), .ref 13]) (σ' := σ) (by decide +kernel) rfl rfl rfl ?_
  refine fhW.callv hΓ mvX2_put ml_10_26 (t := 13) (ci := 2) (av := [.int (σ.1 10 2), .int v1]) (rest := []) (r := none) (σ' := (fcP σ 13 (σ.1 10 2) v1)) (T_X2_put (E := fhEn Γ) (d := fhD Γ - 1) hE (by omega) 13 (σ.1 10 2) v1 rfl σ) (by omega) (by decide +kernel) rfl rfl rfl (Nat.le_of_ble_eq_true rfl) rfl ?_
  show fhW fhYF Γ 12 [(0, .ref 10), (1, .int v1)] [] (fcP σ 13 (σ.1 10 2) v1)
  refine fhW.blk fhPF fhLL hΓ [(.aload_n 0, 0), (.dup, 0), (.getfield 77, 0), (.iconst 1, 1), (.iadd, 0), (.putfield 77, 0)] (pc' := 22) (lv' := [(0, .ref 10), (1, .int v1)]) (st' := []) (σ' := (fhI (fcP σ 13 (σ.1 10 2) v1) 10 2 ((σ.1 10 2) + (1 : Int32)))) (by decide +kernel) rfl rfl rfl ?_
  subst h
  exact fhW.vret hΓ (by decide +kernel) hk
set_option maxRecDepth 100000 in
theorem T_X10_push {E : fhE} {d : Nat} (hE : fhEok fhYF E) (hd : 1 ≤ d) (v1 : Int32)  (σ : fhM) : fhC fhYF E d miX10_push [.ref 10, .int v1] σ none (f_X10_push v1 σ) := by
  refine fhC.of (y := yX10_push) (cc := cX10_push) (nL := 2) (ret := none) 10 rfl (by decide +kernel) (Nat.le_of_ble_eq_true rfl) ?_
  intro Γ hΓ hR hD hEn
  subst hD; subst hEn
  exact L_X10_push_E hE hΓ hd v1  σ _ rfl hR
set_option maxRecDepth 100000 in
set_option maxHeartbeats 4000000 in
theorem L_X10_pop_E {Γ : fhX} (hE : fhEok fhYF (fhEn Γ)) (hΓ : fhOk fhYF 10 cX10_pop 1 (some .int) Γ) (hd : 1 ≤ fhD Γ)   (σ : fhM) (o : Int32 × fhM) (h : f_X10_pop σ = o) (hk : (fun o => fhRet Γ (some (.int o.1)) o.2) o) : fhW fhYF Γ 0 [(0, .ref 10)] [] σ := by
  unfold f_X10_pop at h
  refine fhW.blk fhPF fhLL hΓ [(.aload_n 0, 0), (.aload_n 0, 0), (.getfield 77, 0), (.iconst 1, 1), (.isub, 0), (.iconst 0, 0)] (pc' := 8) (lv' := [(0, .ref 10)]) (st' := [.int (0 : Int32), .int ((σ.1 10 2) - (1 : Int32)), .ref 10]) (σ' := σ) (by decide +kernel) rfl rfl rfl ?_
  refine fhW.calls hΓ msJ9_max_7cf53 ml_10_34 (av := [.int ((σ.1 10 2) - (1 : Int32)), .int (0 : Int32)]) (rest := [.ref 10]) (r := (some (.int (f_J9_max_7cf53 ((σ.1 10 2) - (1 : Int32)) (0 : Int32) σ)))) (σ' := σ) (T_J9_max_7cf53 (E := fhEn Γ) (d := fhD Γ - 1) hE (by omega) ((σ.1 10 2) - (1 : Int32)) (0 : Int32) σ) (by omega) (by decide +kernel) rfl (Nat.le_of_ble_eq_true rfl) rfl ?_
  show fhW fhYF Γ 11 [(0, .ref 10)] [.int (f_J9_max_7cf53 ((σ.1 10 2) - (1 : Int32)) (0 : Int32) σ), .ref 10] σ
  refine fhW.blk fhPF fhLL hΓ [(.putfield 77, 0), (.aload_n 0, 0), (.getfield 20, 0), (.aload_n 0, 0), (.getfield 77, 0)] (pc' := 22) (lv' := [(0, .ref 10)]) (st' := [.int (f_J9_max_7cf53 ((σ.1 10 2) - (1 : Int32)) (0 : Int32) σ), .ref 13]) (σ' := (fhI σ 10 2 (f_J9_max_7cf53 ((σ.1 10 2) - (1 : Int32)) (0 : Int32) σ))) (by decide +kernel) rfl rfl rfl ?_
  refine fhW.callv hΓ mvX2_get ml_10_30 (t := 13) (ci := 2) (av := [.int (f_J9_max_7cf53 ((σ.1 10 2) - (1 : Int32)) (0 : Int32) σ)]) (rest := []) (r := (some (.int (fcG (fhI σ 10 2 (f_J9_max_7cf53 ((σ.1 10 2) - (1 : Int32)) (0 : Int32) σ)) 13 (f_J9_max_7cf53 ((σ.1 10 2) - (1 : Int32)) (0 : Int32) σ))))) (σ' := (fhI σ 10 2 (f_J9_max_7cf53 ((σ.1 10 2) - (1 : Int32)) (0 : Int32) σ))) (T_X2_get (E := fhEn Γ) (d := fhD Γ - 1) hE (by omega) 13 (f_J9_max_7cf53 ((σ.1 10 2) - (1 : Int32)) (0 : Int32) σ) rfl (fhI σ 10 2 (f_J9_max_7cf53 ((σ.1 10 2) - (1 : Int32)) (0 : Int32) σ))) (by omega) (by decide +kernel) rfl rfl rfl (Nat.le_of_ble_eq_true rfl) rfl ?_
  show fhW fhYF Γ 25 [(0, .ref 10)] [.int (fcG (fhI σ 10 2 (f_J9_max_7cf53 ((σ.1 10 2) - (1 : Int32)) (0 : Int32) σ)) 13 (f_J9_max_7cf53 ((σ.1 10 2) - (1 : Int32)) (0 : Int32) σ))] (fhI σ 10 2 (f_J9_max_7cf53 ((σ.1 10 2) - (1 : Int32)) (0 : Int32) σ))
  subst h
  exact fhW.iret hΓ (by decide +kernel) hk
set_option maxRecDepth 100000 in
theorem T_X10_pop {E : fhE} {d : Nat} (hE : fhEok fhYF E) (hd : 1 ≤ d)   (σ : fhM) : fhC fhYF E d miX10_pop [.ref 10] σ (some (.int (f_X10_pop σ).1)) (f_X10_pop σ).2 := by
  refine fhC.of (y := yX10_pop) (cc := cX10_pop) (nL := 1) (ret := (some .int)) 10 rfl (by decide +kernel) (Nat.le_of_ble_eq_true rfl) ?_
  intro Γ hΓ hR hD hEn
  subst hD; subst hEn
  exact L_X10_pop_E hE hΓ hd   σ _ rfl hR
set_option maxRecDepth 100000 in
set_option maxHeartbeats 4000000 in
theorem L_X10_hold_E {Γ : fhX} (hE : fhEok fhYF (fhEn Γ)) (hΓ : fhOk fhYF 10 cX10_hold 2 (some .int) Γ) (hd : 1 ≤ fhD Γ) (v0 : Int64)  (σ : fhM) (o : Int32) (h : f_X10_hold v0 σ = o) (hk : (fun o => fhRet Γ (some (.int o)) σ) o) : fhW fhYF Γ 0 [(0, .long v0)] [] σ := by
  unfold f_X10_hold at h
  refine fhW.blk fhPF fhLL hΓ [(.ldc2_w 109, 0), (.ldc2_w 111, 0), (.lload_n 0, 0)] (pc' := 7) (lv' := [(0, .long v0)]) (st' := [.long v0, .long (1000000 : Int64), .long (-1000000 : Int64)]) (σ' := σ) (by decide +kernel) rfl rfl rfl ?_
  refine fhW.calls hΓ msJ9_min_f86c9 ml_10_113 (av := [.long (1000000 : Int64), .long v0]) (rest := [.long (-1000000 : Int64)]) (r := (some (.long (f_J9_min_f86c9 (1000000 : Int64) v0 σ)))) (σ' := σ) (T_J9_min_f86c9 (E := fhEn Γ) (d := fhD Γ - 1) hE (by omega) (1000000 : Int64) v0 σ) (by omega) (by decide +kernel) rfl (Nat.le_of_ble_eq_true rfl) rfl ?_
  show fhW fhYF Γ 10 [(0, .long v0)] [.long (f_J9_min_f86c9 (1000000 : Int64) v0 σ), .long (-1000000 : Int64)] σ
  refine fhW.calls hΓ msJ9_max_f86c9 ml_10_116 (av := [.long (-1000000 : Int64), .long (f_J9_min_f86c9 (1000000 : Int64) v0 σ)]) (rest := []) (r := (some (.long (f_J9_max_f86c9 (-1000000 : Int64) (f_J9_min_f86c9 (1000000 : Int64) v0 σ) σ)))) (σ' := σ) (T_J9_max_f86c9 (E := fhEn Γ) (d := fhD Γ - 1) hE (by omega) (-1000000 : Int64) (f_J9_min_f86c9 (1000000 : Int64) v0 σ) σ) (by omega) (by decide +kernel) rfl (Nat.le_of_ble_eq_true rfl) rfl ?_
  show fhW fhYF Γ 13 [(0, .long v0)] [.long (f_J9_max_f86c9 (-1000000 : Int64) (f_J9_min_f86c9 (1000000 : Int64) v0 σ) σ)] σ
  refine fhW.blk fhPF fhLL hΓ [(.l2i, 0)] (pc' := 14) (lv' := [(0, .long v0)]) (st' := [.int (Int64.toInt32 (f_J9_max_f86c9 (-1000000 : Int64) (f_J9_min_f86c9 (1000000 : Int64) v0 σ) σ))]) (σ' := σ) (by decide +kernel) rfl rfl rfl ?_
  subst h
  exact fhW.iret hΓ (by decide +kernel) hk
set_option maxRecDepth 100000 in
theorem T_X10_hold {E : fhE} {d : Nat} (hE : fhEok fhYF E) (hd : 1 ≤ d) (v0 : Int64)  (σ : fhM) : fhC fhYF E d miX10_hold [.long v0] σ (some (.int (f_X10_hold v0 σ))) σ := by
  refine fhC.of (y := yX10_hold) (cc := cX10_hold) (nL := 2) (ret := (some .int)) 10 rfl (by decide +kernel) (Nat.le_of_ble_eq_true rfl) ?_
  intro Γ hΓ hR hD hEn
  subst hD; subst hEn
  exact L_X10_hold_E hE hΓ hd v0  σ _ rfl hR
set_option maxRecDepth 100000 in
set_option maxHeartbeats 4000000 in
theorem L_X10_reckon_E {Γ : fhX} (hE : fhEok fhYF (fhEn Γ)) (hΓ : fhOk fhYF 10 cX10_reckon 3 (some .int) Γ) (hd : 2 ≤ fhD Γ) (v0 : Int32) (v1 : Int32) (v2 : Int32)  (σ : fhM) (o : Int32) (h : f_X10_reckon v0 v1 v2 σ = some o) (hk : (fun o => fhRet Γ (some (.int o)) σ) o) : fhW fhYF Γ 0 [(0, .int v0), (1, .int v1), (2, .int v2)] [] σ := by
  unfold f_X10_reckon at h
  refine fhW.blk fhPF fhLL hΓ [(.iload_n 0, 0)] (pc' := 1) (lv' := [(0, .int v0), (1, .int v1), (2, .int v2)]) (st' := [.int v0]) (σ' := σ) (by decide +kernel) rfl rfl rfl ?_
  refine fhW.tsw hΓ (dflt := 82) (lo := 4) (hi := 8) (offs := #[35, 44, 53, 62, 76]) (len := 35) (td := 83) [(4, 36), (5, 45), (6, 54), (7, 63), (8, 77)] (by decide +kernel) ?_
  refine fhsw_c (fun hc => ?_) (fun hc => ?_)
  · rw [if_pos hc] at h
    refine fhW.blk fhPF fhLL hΓ [(.iload_n 1, 0), (.i2l, 0), (.iload_n 2, 0), (.i2l, 0), (.ladd, 0)] (pc' := 41) (lv' := [(0, .int v0), (1, .int v1), (2, .int v2)]) (st' := [.long ((Int32.toInt64 v1) + (Int32.toInt64 v2))]) (σ' := σ) (by decide +kernel) rfl rfl rfl ?_
    refine fhW.calls hΓ msX10_hold ml_10_102 (av := [.long ((Int32.toInt64 v1) + (Int32.toInt64 v2))]) (rest := []) (r := (some (.int (f_X10_hold ((Int32.toInt64 v1) + (Int32.toInt64 v2)) σ)))) (σ' := σ) (T_X10_hold (E := fhEn Γ) (d := fhD Γ - 1) hE (by omega) ((Int32.toInt64 v1) + (Int32.toInt64 v2)) σ) (by omega) (by decide +kernel) rfl (Nat.le_of_ble_eq_true rfl) rfl ?_
    show fhW fhYF Γ 44 [(0, .int v0), (1, .int v1), (2, .int v2)] [.int (f_X10_hold ((Int32.toInt64 v1) + (Int32.toInt64 v2)) σ)] σ
    have e9 := Option.some.inj h
    subst e9
    exact fhW.iret hΓ (by decide +kernel) hk
  rw [if_neg hc] at h
  refine fhsw_c (fun hc => ?_) (fun hc => ?_)
  · rw [if_pos hc] at h
    refine fhW.blk fhPF fhLL hΓ [(.iload_n 1, 0), (.i2l, 0), (.iload_n 2, 0), (.i2l, 0), (.lsub, 0)] (pc' := 50) (lv' := [(0, .int v0), (1, .int v1), (2, .int v2)]) (st' := [.long ((Int32.toInt64 v1) - (Int32.toInt64 v2))]) (σ' := σ) (by decide +kernel) rfl rfl rfl ?_
    refine fhW.calls hΓ msX10_hold ml_10_102 (av := [.long ((Int32.toInt64 v1) - (Int32.toInt64 v2))]) (rest := []) (r := (some (.int (f_X10_hold ((Int32.toInt64 v1) - (Int32.toInt64 v2)) σ)))) (σ' := σ) (T_X10_hold (E := fhEn Γ) (d := fhD Γ - 1) hE (by omega) ((Int32.toInt64 v1) - (Int32.toInt64 v2)) σ) (by omega) (by decide +kernel) rfl (Nat.le_of_ble_eq_true rfl) rfl ?_
    show fhW fhYF Γ 53 [(0, .int v0), (1, .int v1), (2, .int v2)] [.int (f_X10_hold ((Int32.toInt64 v1) - (Int32.toInt64 v2)) σ)] σ
    have e9 := Option.some.inj h
    subst e9
    exact fhW.iret hΓ (by decide +kernel) hk
  rw [if_neg hc] at h
  refine fhsw_c (fun hc => ?_) (fun hc => ?_)
  · rw [if_pos hc] at h
    refine fhW.blk fhPF fhLL hΓ [(.iload_n 1, 0), (.i2l, 0), (.iload_n 2, 0), (.i2l, 0), (.lmul, 0)] (pc' := 59) (lv' := [(0, .int v0), (1, .int v1), (2, .int v2)]) (st' := [.long ((Int32.toInt64 v1) * (Int32.toInt64 v2))]) (σ' := σ) (by decide +kernel) rfl rfl rfl ?_
    refine fhW.calls hΓ msX10_hold ml_10_102 (av := [.long ((Int32.toInt64 v1) * (Int32.toInt64 v2))]) (rest := []) (r := (some (.int (f_X10_hold ((Int32.toInt64 v1) * (Int32.toInt64 v2)) σ)))) (σ' := σ) (T_X10_hold (E := fhEn Γ) (d := fhD Γ - 1) hE (by omega) ((Int32.toInt64 v1) * (Int32.toInt64 v2)) σ) (by omega) (by decide +kernel) rfl (Nat.le_of_ble_eq_true rfl) rfl ?_
    show fhW fhYF Γ 62 [(0, .int v0), (1, .int v1), (2, .int v2)] [.int (f_X10_hold ((Int32.toInt64 v1) * (Int32.toInt64 v2)) σ)] σ
    have e9 := Option.some.inj h
    subst e9
    exact fhW.iret hΓ (by decide +kernel) hk
  rw [if_neg hc] at h
  refine fhsw_c (fun hc => ?_) (fun hc => ?_)
  · rw [if_pos hc] at h
    refine fhW.blk fhPF fhLL hΓ [(.iload_n 2, 0)] (pc' := 64) (lv' := [(0, .int v0), (1, .int v1), (2, .int v2)]) (st' := [.int v2]) (σ' := σ) (by decide +kernel) rfl rfl rfl ?_
    refine fhW.z_ne hΓ (tgt := 71) (show fhbk _ _ (.ifCond .ne (7)) _ = true by decide +kernel) (fun hc => ?_) (fun hc => ?_)
    · rw [if_neg hc] at h
      refine fhW.blk fhPF fhLL hΓ [(.iload_n 1, 0), (.iload_n 2, 0)] (pc' := 73) (lv' := [(0, .int v0), (1, .int v1), (2, .int v2)]) (st' := [.int v2, .int v1]) (σ' := σ) (by decide +kernel) rfl rfl rfl ?_
      obtain ⟨q1, hb1, h⟩ := Option.bind_eq_some_iff.mp h
      refine fhW.calls hΓ msJ9_floorDiv_7cf53 ml_10_106 (av := [.int v1, .int v2]) (rest := []) (r := (some (.int q1))) (σ' := σ) (T_J9_floorDiv_7cf53 (E := fhEn Γ) (d := fhD Γ - 1) hE (by omega) v1 v2 σ hb1) (by omega) (by decide +kernel) rfl (Nat.le_of_ble_eq_true rfl) rfl ?_
      show fhW fhYF Γ 76 [(0, .int v0), (1, .int v1), (2, .int v2)] [.int q1] σ
      have e9 := Option.some.inj h
      subst e9
      exact fhW.iret hΓ (by decide +kernel) hk
    · rw [if_pos hc] at h
      refine fhW.blk fhPF fhLL hΓ [(.iconst 0, 0)] (pc' := 68) (lv' := [(0, .int v0), (1, .int v1), (2, .int v2)]) (st' := [.int (0 : Int32)]) (σ' := σ) (by decide +kernel) rfl rfl rfl ?_
      refine fhW.goto hΓ (off := 8) (tgt := 76) (by decide +kernel) ?_
      have e9 := Option.some.inj h
      subst e9
      exact fhW.iret hΓ (by decide +kernel) hk
  rw [if_neg hc] at h
  refine fhsw_c (fun hc => ?_) (fun hc => ?_)
  · rw [if_pos hc] at h
    refine fhW.blk fhPF fhLL hΓ [(.iload_n 1, 0), (.iload_n 2, 0)] (pc' := 79) (lv' := [(0, .int v0), (1, .int v1), (2, .int v2)]) (st' := [.int v2, .int v1]) (σ' := σ) (by decide +kernel) rfl rfl rfl ?_
    refine fhW.calls hΓ msJ9_min_7cf53 ml_10_40 (av := [.int v1, .int v2]) (rest := []) (r := (some (.int (f_J9_min_7cf53 v1 v2 σ)))) (σ' := σ) (T_J9_min_7cf53 (E := fhEn Γ) (d := fhD Γ - 1) hE (by omega) v1 v2 σ) (by omega) (by decide +kernel) rfl (Nat.le_of_ble_eq_true rfl) rfl ?_
    show fhW fhYF Γ 82 [(0, .int v0), (1, .int v1), (2, .int v2)] [.int (f_J9_min_7cf53 v1 v2 σ)] σ
    have e9 := Option.some.inj h
    subst e9
    exact fhW.iret hΓ (by decide +kernel) hk
  rw [if_neg hc] at h
  refine fhsw_n ?_
  refine fhW.blk fhPF fhLL hΓ [(.iload_n 1, 0), (.iload_n 2, 0)] (pc' := 85) (lv' := [(0, .int v0), (1, .int v1), (2, .int v2)]) (st' := [.int v2, .int v1]) (σ' := σ) (by decide +kernel) rfl rfl rfl ?_
  refine fhW.calls hΓ msJ9_max_7cf53 ml_10_34 (av := [.int v1, .int v2]) (rest := []) (r := (some (.int (f_J9_max_7cf53 v1 v2 σ)))) (σ' := σ) (T_J9_max_7cf53 (E := fhEn Γ) (d := fhD Γ - 1) hE (by omega) v1 v2 σ) (by omega) (by decide +kernel) rfl (Nat.le_of_ble_eq_true rfl) rfl ?_
  show fhW fhYF Γ 88 [(0, .int v0), (1, .int v1), (2, .int v2)] [.int (f_J9_max_7cf53 v1 v2 σ)] σ
  have e9 := Option.some.inj h
  subst e9
  exact fhW.iret hΓ (by decide +kernel) hk
set_option maxRecDepth 100000 in
theorem T_X10_reckon {E : fhE} {d : Nat} (hE : fhEok fhYF E) (hd : 2 ≤ d) (v0 : Int32) (v1 : Int32) (v2 : Int32)  (σ : fhM) {o : Int32} (h : f_X10_reckon v0 v1 v2 σ = some o) : fhC fhYF E d miX10_reckon [.int v0, .int v1, .int v2] σ (some (.int o)) σ := by
  refine fhC.of (y := yX10_reckon) (cc := cX10_reckon) (nL := 3) (ret := (some .int)) 10 rfl (by decide +kernel) (Nat.le_of_ble_eq_true rfl) ?_
  intro Γ hΓ hR hD hEn
  subst hD; subst hEn
  exact L_X10_reckon_E hE hΓ hd v0 v1 v2  σ _ h hR
set_option maxRecDepth 100000 in
set_option maxHeartbeats 4000000 in
theorem L_X10_judge_105 {Γ : fhX} (hE : fhEok fhYF (fhEn Γ)) (hΓ : fhOk fhYF 10 cX10_judge 4 (some .int) Γ) (hd : 0 ≤ fhD Γ) (v3 : Int32)  (σ : fhM) (o : Int32) (h : f_X10_judge_105 v3 σ = o) (hk : (fun o => fhRet Γ (some (.int o)) σ) o) : fhW fhYF Γ 105 [(3, .int v3)] [] σ := by
  unfold f_X10_judge_105 at h
  refine fhW.blk fhPF fhLL hΓ [(.iload_n 3, 0)] (pc' := 106) (lv' := [(3, .int v3)]) (st' := [.int v3]) (σ' := σ) (by decide +kernel) rfl rfl rfl ?_
  refine fhW.z_eq hΓ (tgt := 113) (show fhbk _ _ (.ifCond .eq (7)) _ = true by decide +kernel) (fun hc => ?_) (fun hc => ?_)
  · rw [if_pos hc] at h
    refine fhW.blk fhPF fhLL hΓ [(.iconst 0, 0)] (pc' := 114) (lv' := [(3, .int v3)]) (st' := [.int (0 : Int32)]) (σ' := σ) (by decide +kernel) rfl rfl rfl ?_
    subst h
    exact fhW.iret hΓ (by decide +kernel) hk
  · rw [if_neg hc] at h
    refine fhW.blk fhPF fhLL hΓ [(.iconst 1, 1)] (pc' := 110) (lv' := [(3, .int v3)]) (st' := [.int (1 : Int32)]) (σ' := σ) (by decide +kernel) rfl rfl rfl ?_
    refine fhW.goto hΓ (off := 4) (tgt := 114) (by decide +kernel) ?_
    subst h
    exact fhW.iret hΓ (by decide +kernel) hk
set_option maxRecDepth 100000 in
set_option maxHeartbeats 4000000 in
theorem L_X10_judge_104 {Γ : fhX} (hE : fhEok fhYF (fhEn Γ)) (hΓ : fhOk fhYF 10 cX10_judge 4 (some .int) Γ) (hd : 0 ≤ fhD Γ) (s0 : Int32)  (σ : fhM) (o : Int32) (h : f_X10_judge_104 s0 σ = o) (hk : (fun o => fhRet Γ (some (.int o)) σ) o) : fhW fhYF Γ 104 [] [.int s0] σ := by
  unfold f_X10_judge_104 at h
  refine fhW.blk fhPF fhLL hΓ [(.istore_n 3, 0)] (pc' := 105) (lv' := [(3, .int s0)]) (st' := []) (σ' := σ) (by decide +kernel) rfl rfl rfl ?_
  refine fhW.sub (lv' := [(3, .int s0)]) [0] rfl ?_
  exact L_X10_judge_105 hE hΓ hd s0 σ _ h hk
set_option maxRecDepth 100000 in
set_option maxHeartbeats 4000000 in
theorem L_X10_judge_99 {Γ : fhX} (hE : fhEok fhYF (fhEn Γ)) (hΓ : fhOk fhYF 10 cX10_judge 4 (some .int) Γ) (hd : 0 ≤ fhD Γ)   (σ : fhM) (o : Int32) (h : f_X10_judge_99 σ = o) (hk : (fun o => fhRet Γ (some (.int o)) σ) o) : fhW fhYF Γ 99 [] [] σ := by
  unfold f_X10_judge_99 at h
  refine fhW.blk fhPF fhLL hΓ [(.iconst 1, 1)] (pc' := 100) (lv' := []) (st' := [.int (1 : Int32)]) (σ' := σ) (by decide +kernel) rfl rfl rfl ?_
  refine fhW.goto hΓ (off := 4) (tgt := 104) (by decide +kernel) ?_
  refine fhW.sub (lv' := []) [] rfl ?_
  exact L_X10_judge_104 hE hΓ hd (1 : Int32) σ _ h hk
set_option maxRecDepth 100000 in
set_option maxHeartbeats 4000000 in
theorem L_X10_judge_42 {Γ : fhX} (hE : fhEok fhYF (fhEn Γ)) (hΓ : fhOk fhYF 10 cX10_judge 4 (some .int) Γ) (hd : 0 ≤ fhD Γ) (s0 : Int32)  (σ : fhM) (o : Int32) (h : f_X10_judge_42 s0 σ = o) (hk : (fun o => fhRet Γ (some (.int o)) σ) o) : fhW fhYF Γ 42 [] [.int s0] σ := by
  unfold f_X10_judge_42 at h
  refine fhW.blk fhPF fhLL hΓ [(.istore_n 3, 0)] (pc' := 43) (lv' := [(3, .int s0)]) (st' := []) (σ' := σ) (by decide +kernel) rfl rfl rfl ?_
  refine fhW.goto hΓ (off := 62) (tgt := 105) (by decide +kernel) ?_
  refine fhW.sub (lv' := [(3, .int s0)]) [0] rfl ?_
  exact L_X10_judge_105 hE hΓ hd s0 σ _ h hk
set_option maxRecDepth 100000 in
set_option maxHeartbeats 4000000 in
theorem L_X10_judge_56 {Γ : fhX} (hE : fhEok fhYF (fhEn Γ)) (hΓ : fhOk fhYF 10 cX10_judge 4 (some .int) Γ) (hd : 0 ≤ fhD Γ) (s0 : Int32)  (σ : fhM) (o : Int32) (h : f_X10_judge_56 s0 σ = o) (hk : (fun o => fhRet Γ (some (.int o)) σ) o) : fhW fhYF Γ 56 [] [.int s0] σ := by
  unfold f_X10_judge_56 at h
  refine fhW.blk fhPF fhLL hΓ [(.istore_n 3, 0)] (pc' := 57) (lv' := [(3, .int s0)]) (st' := []) (σ' := σ) (by decide +kernel) rfl rfl rfl ?_
  refine fhW.goto hΓ (off := 48) (tgt := 105) (by decide +kernel) ?_
  refine fhW.sub (lv' := [(3, .int s0)]) [0] rfl ?_
  exact L_X10_judge_105 hE hΓ hd s0 σ _ h hk
set_option maxRecDepth 100000 in
set_option maxHeartbeats 4000000 in
theorem L_X10_judge_70 {Γ : fhX} (hE : fhEok fhYF (fhEn Γ)) (hΓ : fhOk fhYF 10 cX10_judge 4 (some .int) Γ) (hd : 0 ≤ fhD Γ) (s0 : Int32)  (σ : fhM) (o : Int32) (h : f_X10_judge_70 s0 σ = o) (hk : (fun o => fhRet Γ (some (.int o)) σ) o) : fhW fhYF Γ 70 [] [.int s0] σ := by
  unfold f_X10_judge_70 at h
  refine fhW.blk fhPF fhLL hΓ [(.istore_n 3, 0)] (pc' := 71) (lv' := [(3, .int s0)]) (st' := []) (σ' := σ) (by decide +kernel) rfl rfl rfl ?_
  refine fhW.goto hΓ (off := 34) (tgt := 105) (by decide +kernel) ?_
  refine fhW.sub (lv' := [(3, .int s0)]) [0] rfl ?_
  exact L_X10_judge_105 hE hΓ hd s0 σ _ h hk
set_option maxRecDepth 100000 in
set_option maxHeartbeats 4000000 in
theorem L_X10_judge_87 {Γ : fhX} (hE : fhEok fhYF (fhEn Γ)) (hΓ : fhOk fhYF 10 cX10_judge 4 (some .int) Γ) (hd : 0 ≤ fhD Γ) (s0 : Int32)  (σ : fhM) (o : Int32) (h : f_X10_judge_87 s0 σ = o) (hk : (fun o => fhRet Γ (some (.int o)) σ) o) : fhW fhYF Γ 87 [] [.int s0] σ := by
  unfold f_X10_judge_87 at h
  refine fhW.blk fhPF fhLL hΓ [(.istore_n 3, 0)] (pc' := 88) (lv' := [(3, .int s0)]) (st' := []) (σ' := σ) (by decide +kernel) rfl rfl rfl ?_
  refine fhW.goto hΓ (off := 17) (tgt := 105) (by decide +kernel) ?_
  refine fhW.sub (lv' := [(3, .int s0)]) [0] rfl ?_
  exact L_X10_judge_105 hE hΓ hd s0 σ _ h hk
set_option maxRecDepth 100000 in
set_option maxHeartbeats 4000000 in
theorem L_X10_judge_86 {Γ : fhX} (hE : fhEok fhYF (fhEn Γ)) (hΓ : fhOk fhYF 10 cX10_judge 4 (some .int) Γ) (hd : 0 ≤ fhD Γ)   (σ : fhM) (o : Int32) (h : f_X10_judge_86 σ = o) (hk : (fun o => fhRet Γ (some (.int o)) σ) o) : fhW fhYF Γ 86 [] [] σ := by
  unfold f_X10_judge_86 at h
  refine fhW.blk fhPF fhLL hΓ [(.iconst 0, 0)] (pc' := 87) (lv' := []) (st' := [.int (0 : Int32)]) (σ' := σ) (by decide +kernel) rfl rfl rfl ?_
  refine fhW.sub (lv' := []) [] rfl ?_
  exact L_X10_judge_87 hE hΓ hd (0 : Int32) σ _ h hk
set_option maxRecDepth 100000 in
set_option maxHeartbeats 4000000 in
theorem L_X10_judge_E {Γ : fhX} (hE : fhEok fhYF (fhEn Γ)) (hΓ : fhOk fhYF 10 cX10_judge 4 (some .int) Γ) (hd : 0 ≤ fhD Γ) (v0 : Int32) (v1 : Int32) (v2 : Int32)  (σ : fhM) (o : Int32) (h : f_X10_judge v0 v1 v2 σ = o) (hk : (fun o => fhRet Γ (some (.int o)) σ) o) : fhW fhYF Γ 0 [(0, .int v0), (1, .int v1), (2, .int v2)] [] σ := by
  unfold f_X10_judge at h
  refine fhW.blk fhPF fhLL hΓ [(.iload_n 0, 0)] (pc' := 1) (lv' := [(0, .int v0), (1, .int v1), (2, .int v2)]) (st' := [.int v0]) (σ' := σ) (by decide +kernel) rfl rfl rfl ?_
  refine fhW.tsw hΓ (dflt := 90) (lo := 10) (hi := 13) (offs := #[31, 45, 59, 73]) (len := 31) (td := 91) [(10, 32), (11, 46), (12, 60), (13, 74)] (by decide +kernel) ?_
  refine fhsw_c (fun hc => ?_) (fun hc => ?_)
  · rw [if_pos hc] at h
    refine fhW.blk fhPF fhLL hΓ [(.iload_n 1, 0), (.iload_n 2, 0)] (pc' := 34) (lv' := [(0, .int v0), (1, .int v1), (2, .int v2)]) (st' := [.int v2, .int v1]) (σ' := σ) (by decide +kernel) rfl rfl rfl ?_
    refine fhW.i_ge hΓ (tgt := 41) (show fhbk _ _ (.if_icmp .ge (7)) _ = true by decide +kernel) (fun hc => ?_) (fun hc => ?_)
    · simp only [if_pos hc] at h
      refine fhW.blk fhPF fhLL hΓ [(.iconst 0, 0)] (pc' := 42) (lv' := [(0, .int v0), (1, .int v1), (2, .int v2)]) (st' := [.int (0 : Int32)]) (σ' := σ) (by decide +kernel) rfl rfl rfl ?_
      refine fhW.sub (lv' := []) [] rfl ?_
      exact L_X10_judge_42 hE hΓ hd (0 : Int32) σ _ h hk
    · simp only [if_neg hc] at h
      refine fhW.blk fhPF fhLL hΓ [(.iconst 1, 1)] (pc' := 38) (lv' := [(0, .int v0), (1, .int v1), (2, .int v2)]) (st' := [.int (1 : Int32)]) (σ' := σ) (by decide +kernel) rfl rfl rfl ?_
      refine fhW.goto hΓ (off := 4) (tgt := 42) (by decide +kernel) ?_
      refine fhW.sub (lv' := []) [] rfl ?_
      exact L_X10_judge_42 hE hΓ hd (1 : Int32) σ _ h hk
  rw [if_neg hc] at h
  refine fhsw_c (fun hc => ?_) (fun hc => ?_)
  · rw [if_pos hc] at h
    refine fhW.blk fhPF fhLL hΓ [(.iload_n 1, 0), (.iload_n 2, 0)] (pc' := 48) (lv' := [(0, .int v0), (1, .int v1), (2, .int v2)]) (st' := [.int v2, .int v1]) (σ' := σ) (by decide +kernel) rfl rfl rfl ?_
    refine fhW.i_le hΓ (tgt := 55) (show fhbk _ _ (.if_icmp .le (7)) _ = true by decide +kernel) (fun hc => ?_) (fun hc => ?_)
    · simp only [if_pos hc] at h
      refine fhW.blk fhPF fhLL hΓ [(.iconst 0, 0)] (pc' := 56) (lv' := [(0, .int v0), (1, .int v1), (2, .int v2)]) (st' := [.int (0 : Int32)]) (σ' := σ) (by decide +kernel) rfl rfl rfl ?_
      refine fhW.sub (lv' := []) [] rfl ?_
      exact L_X10_judge_56 hE hΓ hd (0 : Int32) σ _ h hk
    · simp only [if_neg hc] at h
      refine fhW.blk fhPF fhLL hΓ [(.iconst 1, 1)] (pc' := 52) (lv' := [(0, .int v0), (1, .int v1), (2, .int v2)]) (st' := [.int (1 : Int32)]) (σ' := σ) (by decide +kernel) rfl rfl rfl ?_
      refine fhW.goto hΓ (off := 4) (tgt := 56) (by decide +kernel) ?_
      refine fhW.sub (lv' := []) [] rfl ?_
      exact L_X10_judge_56 hE hΓ hd (1 : Int32) σ _ h hk
  rw [if_neg hc] at h
  refine fhsw_c (fun hc => ?_) (fun hc => ?_)
  · rw [if_pos hc] at h
    refine fhW.blk fhPF fhLL hΓ [(.iload_n 1, 0), (.iload_n 2, 0)] (pc' := 62) (lv' := [(0, .int v0), (1, .int v1), (2, .int v2)]) (st' := [.int v2, .int v1]) (σ' := σ) (by decide +kernel) rfl rfl rfl ?_
    refine fhW.i_ne hΓ (tgt := 69) (show fhbk _ _ (.if_icmp .ne (7)) _ = true by decide +kernel) (fun hc => ?_) (fun hc => ?_)
    · simp only [if_neg hc] at h
      refine fhW.blk fhPF fhLL hΓ [(.iconst 0, 0)] (pc' := 70) (lv' := [(0, .int v0), (1, .int v1), (2, .int v2)]) (st' := [.int (0 : Int32)]) (σ' := σ) (by decide +kernel) rfl rfl rfl ?_
      refine fhW.sub (lv' := []) [] rfl ?_
      exact L_X10_judge_70 hE hΓ hd (0 : Int32) σ _ h hk
    · simp only [if_pos hc] at h
      refine fhW.blk fhPF fhLL hΓ [(.iconst 1, 1)] (pc' := 66) (lv' := [(0, .int v0), (1, .int v1), (2, .int v2)]) (st' := [.int (1 : Int32)]) (σ' := σ) (by decide +kernel) rfl rfl rfl ?_
      refine fhW.goto hΓ (off := 4) (tgt := 70) (by decide +kernel) ?_
      refine fhW.sub (lv' := []) [] rfl ?_
      exact L_X10_judge_70 hE hΓ hd (1 : Int32) σ _ h hk
  rw [if_neg hc] at h
  refine fhsw_c (fun hc => ?_) (fun hc => ?_)
  · rw [if_pos hc] at h
    refine fhW.blk fhPF fhLL hΓ [(.iload_n 1, 0)] (pc' := 75) (lv' := [(0, .int v0), (1, .int v1), (2, .int v2)]) (st' := [.int v1]) (σ' := σ) (by decide +kernel) rfl rfl rfl ?_
    refine fhW.z_eq hΓ (tgt := 86) (show fhbk _ _ (.ifCond .eq (11)) _ = true by decide +kernel) (fun hc => ?_) (fun hc => ?_)
    · rw [if_pos hc] at h
      refine fhW.sub (lv' := []) [] rfl ?_
      exact L_X10_judge_86 hE hΓ hd σ _ h hk
    · rw [if_neg hc] at h
      refine fhW.blk fhPF fhLL hΓ [(.iload_n 2, 0)] (pc' := 79) (lv' := [(0, .int v0), (1, .int v1), (2, .int v2)]) (st' := [.int v2]) (σ' := σ) (by decide +kernel) rfl rfl rfl ?_
      refine fhW.z_eq hΓ (tgt := 86) (show fhbk _ _ (.ifCond .eq (7)) _ = true by decide +kernel) (fun hc => ?_) (fun hc => ?_)
      · rw [if_pos hc] at h
        refine fhW.sub (lv' := []) [] rfl ?_
        exact L_X10_judge_86 hE hΓ hd σ _ h hk
      · rw [if_neg hc] at h
        refine fhW.blk fhPF fhLL hΓ [(.iconst 1, 1)] (pc' := 83) (lv' := [(0, .int v0), (1, .int v1), (2, .int v2)]) (st' := [.int (1 : Int32)]) (σ' := σ) (by decide +kernel) rfl rfl rfl ?_
        refine fhW.goto hΓ (off := 4) (tgt := 87) (by decide +kernel) ?_
        refine fhW.sub (lv' := []) [] rfl ?_
        exact L_X10_judge_87 hE hΓ hd (1 : Int32) σ _ h hk
  rw [if_neg hc] at h
  refine fhsw_n ?_
  refine fhW.blk fhPF fhLL hΓ [(.iload_n 1, 0)] (pc' := 92) (lv' := [(0, .int v0), (1, .int v1), (2, .int v2)]) (st' := [.int v1]) (σ' := σ) (by decide +kernel) rfl rfl rfl ?_
  refine fhW.z_ne hΓ (tgt := 99) (show fhbk _ _ (.ifCond .ne (7)) _ = true by decide +kernel) (fun hc => ?_) (fun hc => ?_)
  · rw [if_neg hc] at h
    refine fhW.sub (lv' := []) [] rfl ?_
    exact L_X10_judge_99 hE hΓ hd σ _ h hk
  · rw [if_pos hc] at h
    refine fhW.blk fhPF fhLL hΓ [(.iload_n 2, 0)] (pc' := 96) (lv' := [(0, .int v0), (1, .int v1), (2, .int v2)]) (st' := [.int v2]) (σ' := σ) (by decide +kernel) rfl rfl rfl ?_
    refine fhW.z_eq hΓ (tgt := 103) (show fhbk _ _ (.ifCond .eq (7)) _ = true by decide +kernel) (fun hc => ?_) (fun hc => ?_)
    · rw [if_pos hc] at h
      refine fhW.blk fhPF fhLL hΓ [(.iconst 0, 0)] (pc' := 104) (lv' := [(0, .int v0), (1, .int v1), (2, .int v2)]) (st' := [.int (0 : Int32)]) (σ' := σ) (by decide +kernel) rfl rfl rfl ?_
      refine fhW.sub (lv' := []) [] rfl ?_
      exact L_X10_judge_104 hE hΓ hd (0 : Int32) σ _ h hk
    · rw [if_neg hc] at h
      refine fhW.sub (lv' := []) [] rfl ?_
      exact L_X10_judge_99 hE hΓ hd σ _ h hk
set_option maxRecDepth 100000 in
theorem T_X10_judge {E : fhE} {d : Nat} (hE : fhEok fhYF E) (hd : 0 ≤ d) (v0 : Int32) (v1 : Int32) (v2 : Int32)  (σ : fhM) : fhC fhYF E d miX10_judge [.int v0, .int v1, .int v2] σ (some (.int (f_X10_judge v0 v1 v2 σ))) σ := by
  refine fhC.of (y := yX10_judge) (cc := cX10_judge) (nL := 4) (ret := (some .int)) 10 rfl (by decide +kernel) (Nat.le_of_ble_eq_true rfl) ?_
  intro Γ hΓ hR hD hEn
  subst hD; subst hEn
  exact L_X10_judge_E hE hΓ hd v0 v1 v2  σ _ rfl hR
set_option maxRecDepth 100000 in
set_option maxHeartbeats 4000000 in
theorem L_X10_work_141 {Γ : fhX} (hE : fhEok fhYF (fhEn Γ)) (hΓ : fhOk fhYF 10 cX10_work 6 none Γ) (hd : 3 ≤ fhD Γ) (s0 : Int32)  (σ : fhM) (o : fhM) (h : f_X10_work_141 s0 σ = some o) (hk : (fun o => fhRet Γ none o) o) : fhW fhYF Γ 141 [] [.int s0, .ref 10] σ := by
  unfold f_X10_work_141 at h
  refine fhW.callv hΓ mvX10_push ml_10_92 (t := 10) (ci := 10) (av := [.int s0]) (rest := []) (r := none) (σ' := (f_X10_push s0 σ)) (T_X10_push (E := fhEn Γ) (d := fhD Γ - 1) hE (by omega) s0 σ) (by omega) (by decide +kernel) rfl rfl rfl (Nat.le_of_ble_eq_true rfl) rfl ?_
  show fhW fhYF Γ 144 [] [] (f_X10_push s0 σ)
  obtain ⟨q10, e1, h⟩ := fhlet_elim h
  rw [← e1]
  have e9 := Option.some.inj h
  subst e9
  exact fhW.vret hΓ (by decide +kernel) hk
set_option maxRecDepth 100000 in
set_option maxHeartbeats 4000000 in
theorem L_X10_work_84 {Γ : fhX} (hE : fhEok fhYF (fhEn Γ)) (hΓ : fhOk fhYF 10 cX10_work 6 none Γ) (hd : 3 ≤ fhD Γ) (s0 : Int32)  (σ : fhM) (o : fhM) (h : f_X10_work_84 s0 σ = some o) (hk : (fun o => fhRet Γ none o) o) : fhW fhYF Γ 84 [] [.int s0, .ref 10] σ := by
  unfold f_X10_work_84 at h
  refine fhW.callv hΓ mvX10_push ml_10_92 (t := 10) (ci := 10) (av := [.int s0]) (rest := []) (r := none) (σ' := (f_X10_push s0 σ)) (T_X10_push (E := fhEn Γ) (d := fhD Γ - 1) hE (by omega) s0 σ) (by omega) (by decide +kernel) rfl rfl rfl (Nat.le_of_ble_eq_true rfl) rfl ?_
  show fhW fhYF Γ 87 [] [] (f_X10_push s0 σ)
  obtain ⟨q9, e2, h⟩ := fhlet_elim h
  rw [← e2]
  refine fhW.goto hΓ (off := 57) (tgt := 144) (by decide +kernel) ?_
  have e9 := Option.some.inj h
  subst e9
  exact fhW.vret hΓ (by decide +kernel) hk
set_option maxRecDepth 100000 in
set_option maxHeartbeats 4000000 in
theorem L_X10_work_83 {Γ : fhX} (hE : fhEok fhYF (fhEn Γ)) (hΓ : fhOk fhYF 10 cX10_work 6 none Γ) (hd : 3 ≤ fhD Γ)   (σ : fhM) (o : fhM) (h : f_X10_work_83 σ = some o) (hk : (fun o => fhRet Γ none o) o) : fhW fhYF Γ 83 [] [.ref 10] σ := by
  unfold f_X10_work_83 at h
  refine fhW.blk fhPF fhLL hΓ [(.iconst 0, 0)] (pc' := 84) (lv' := []) (st' := [.int (0 : Int32), .ref 10]) (σ' := σ) (by decide +kernel) rfl rfl rfl ?_
  refine fhW.sub (lv' := []) [] rfl ?_
  exact L_X10_work_84 hE hΓ hd (0 : Int32) σ _ h hk
set_option maxRecDepth 100000 in
set_option maxHeartbeats 4000000 in
theorem L_X10_work_E {Γ : fhX} (hE : fhEok fhYF (fhEn Γ)) (hΓ : fhOk fhYF 10 cX10_work 6 none Γ) (hd : 3 ≤ fhD Γ) (v1 : Int32) (v2 : Int32)  (σ : fhM) (o : fhM) (h : f_X10_work v1 v2 σ = some o) (hk : (fun o => fhRet Γ none o) o) : fhW fhYF Γ 0 [(0, .ref 10), (1, .int v1), (2, .int v2)] [] σ := by
  unfold f_X10_work at h
  refine fhW.blk fhPF fhLL hΓ [(.iload_n 1, 0)] (pc' := 1) (lv' := [(0, .ref 10), (1, .int v1), (2, .int v2)]) (st' := [.int v1]) (σ' := σ) (by decide +kernel) rfl rfl rfl ?_
  refine fhW.tsw hΓ (dflt := 102) (lo := 0) (hi := 3) (offs := #[31, 39, 54, 89]) (len := 31) (td := 103) [(0, 32), (1, 40), (2, 55), (3, 90)] (by decide +kernel) ?_
  refine fhsw_c (fun hc => ?_) (fun hc => ?_)
  · rw [if_pos hc] at h
    refine fhW.blk fhPF fhLL hΓ [(.aload_n 0, 0), (.iload_n 2, 0)] (pc' := 34) (lv' := [(0, .ref 10), (1, .int v1), (2, .int v2)]) (st' := [.int v2, .ref 10]) (σ' := σ) (by decide +kernel) rfl rfl rfl ?_
    refine fhW.callv hΓ mvX10_push ml_10_92 (t := 10) (ci := 10) (av := [.int v2]) (rest := []) (r := none) (σ' := (f_X10_push v2 σ)) (T_X10_push (E := fhEn Γ) (d := fhD Γ - 1) hE (by omega) v2 σ) (by omega) (by decide +kernel) rfl rfl rfl (Nat.le_of_ble_eq_true rfl) rfl ?_
    show fhW fhYF Γ 37 [(0, .ref 10), (1, .int v1), (2, .int v2)] [] (f_X10_push v2 σ)
    obtain ⟨q1, e3, h⟩ := fhlet_elim h
    rw [← e3]
    refine fhW.goto hΓ (off := 107) (tgt := 144) (by decide +kernel) ?_
    have e9 := Option.some.inj h
    subst e9
    exact fhW.vret hΓ (by decide +kernel) hk
  rw [if_neg hc] at h
  refine fhsw_c (fun hc => ?_) (fun hc => ?_)
  · rw [if_pos hc] at h
    refine fhW.blk fhPF fhLL hΓ [(.aload_n 0, 0), (.aload_n 0, 0), (.getfield 14, 0), (.iload_n 2, 0)] (pc' := 46) (lv' := [(0, .ref 10), (1, .int v1), (2, .int v2)]) (st' := [.int v2, .ref 11, .ref 10]) (σ' := σ) (by decide +kernel) rfl rfl rfl ?_
    refine fhW.callv hΓ mvX2_get ml_10_30 (t := 11) (ci := 2) (av := [.int v2]) (rest := [.ref 10]) (r := (some (.int (fcG σ 11 v2)))) (σ' := σ) (T_X2_get (E := fhEn Γ) (d := fhD Γ - 1) hE (by omega) 11 v2 rfl σ) (by omega) (by decide +kernel) rfl rfl rfl (Nat.le_of_ble_eq_true rfl) rfl ?_
    show fhW fhYF Γ 49 [(0, .ref 10), (1, .int v1), (2, .int v2)] [.int (fcG σ 11 v2), .ref 10] σ
    refine fhW.callv hΓ mvX10_push ml_10_92 (t := 10) (ci := 10) (av := [.int (fcG σ 11 v2)]) (rest := []) (r := none) (σ' := (f_X10_push (fcG σ 11 v2) σ)) (T_X10_push (E := fhEn Γ) (d := fhD Γ - 1) hE (by omega) (fcG σ 11 v2) σ) (by omega) (by decide +kernel) rfl rfl rfl (Nat.le_of_ble_eq_true rfl) rfl ?_
    show fhW fhYF Γ 52 [(0, .ref 10), (1, .int v1), (2, .int v2)] [] (f_X10_push (fcG σ 11 v2) σ)
    obtain ⟨q2, e4, h⟩ := fhlet_elim h
    rw [← e4]
    refine fhW.goto hΓ (off := 92) (tgt := 144) (by decide +kernel) ?_
    have e9 := Option.some.inj h
    subst e9
    exact fhW.vret hΓ (by decide +kernel) hk
  rw [if_neg hc] at h
  refine fhsw_c (fun hc => ?_) (fun hc => ?_)
  · rw [if_pos hc] at h
    refine fhW.blk fhPF fhLL hΓ [(.aload_n 0, 0)] (pc' := 56) (lv' := [(0, .ref 10), (1, .int v1), (2, .int v2)]) (st' := [.ref 10]) (σ' := σ) (by decide +kernel) rfl rfl rfl ?_
    refine fhW.callv hΓ mvX10_pop ml_10_88 (t := 10) (ci := 10) (av := []) (rest := []) (r := (some (.int (f_X10_pop σ).1))) (σ' := (f_X10_pop σ).2) (T_X10_pop (E := fhEn Γ) (d := fhD Γ - 1) hE (by omega) σ) (by omega) (by decide +kernel) rfl rfl rfl (Nat.le_of_ble_eq_true rfl) rfl ?_
    show fhW fhYF Γ 59 [(0, .ref 10), (1, .int v1), (2, .int v2)] [.int (f_X10_pop σ).1] (f_X10_pop σ).2
    obtain ⟨q3, e5, h⟩ := fhlet_elim h
    rw [← e5]
    refine fhW.blk fhPF fhLL hΓ [(.istore_n 3, 0), (.aload_n 0, 0), (.iload_n 3, 0)] (pc' := 62) (lv' := [(3, .int q3.1), (0, .ref 10), (1, .int v1), (2, .int v2)]) (st' := [.int q3.1, .ref 10]) (σ' := q3.2) (by decide +kernel) rfl rfl rfl ?_
    refine fhW.z_lt hΓ (tgt := 83) (show fhbk _ _ (.ifCond .lt (21)) _ = true by decide +kernel) (fun hc => ?_) (fun hc => ?_)
    · rw [if_pos hc] at h
      refine fhW.sub (lv' := []) [] rfl ?_
      exact L_X10_work_83 hE hΓ hd q3.2 _ h hk
    · rw [if_neg hc] at h
      refine fhW.blk fhPF fhLL hΓ [(.iload_n 3, 0), (.iconst 5, 5)] (pc' := 67) (lv' := [(3, .int q3.1), (0, .ref 10), (1, .int v1), (2, .int v2)]) (st' := [.int (5 : Int32), .int q3.1, .ref 10]) (σ' := q3.2) (by decide +kernel) rfl rfl rfl ?_
      refine fhW.i_ge hΓ (tgt := 83) (show fhbk _ _ (.if_icmp .ge (16)) _ = true by decide +kernel) (fun hc => ?_) (fun hc => ?_)
      · rw [if_pos hc] at h
        refine fhW.sub (lv' := []) [] rfl ?_
        exact L_X10_work_83 hE hΓ hd q3.2 _ h hk
      · rw [if_neg hc] at h
        refine fhW.blk fhPF fhLL hΓ [(.aload_n 0, 0), (.getfield 14, 0), (.iload_n 2, 0), (.iload_n 3, 0), (.iadd, 0)] (pc' := 77) (lv' := [(3, .int q3.1), (0, .ref 10), (1, .int v1), (2, .int v2)]) (st' := [.int (v2 + q3.1), .ref 11, .ref 10]) (σ' := q3.2) (by decide +kernel) rfl rfl rfl ?_
        refine fhW.callv hΓ mvX2_get ml_10_30 (t := 11) (ci := 2) (av := [.int (v2 + q3.1)]) (rest := [.ref 10]) (r := (some (.int (fcG q3.2 11 (v2 + q3.1))))) (σ' := q3.2) (T_X2_get (E := fhEn Γ) (d := fhD Γ - 1) hE (by omega) 11 (v2 + q3.1) rfl q3.2) (by omega) (by decide +kernel) rfl rfl rfl (Nat.le_of_ble_eq_true rfl) rfl ?_
        show fhW fhYF Γ 80 [(3, .int q3.1), (0, .ref 10), (1, .int v1), (2, .int v2)] [.int (fcG q3.2 11 (v2 + q3.1)), .ref 10] q3.2
        refine fhW.goto hΓ (off := 4) (tgt := 84) (by decide +kernel) ?_
        refine fhW.sub (lv' := []) [] rfl ?_
        exact L_X10_work_84 hE hΓ hd (fcG q3.2 11 (v2 + q3.1)) q3.2 _ h hk
  rw [if_neg hc] at h
  refine fhsw_c (fun hc => ?_) (fun hc => ?_)
  · rw [if_pos hc] at h
    refine fhW.blk fhPF fhLL hΓ [(.aload_n 0, 0), (.iconst 1, 1), (.aload_n 0, 0)] (pc' := 93) (lv' := [(0, .ref 10), (1, .int v1), (2, .int v2)]) (st' := [.ref 10, .int (1 : Int32), .ref 10]) (σ' := σ) (by decide +kernel) rfl rfl rfl ?_
    refine fhW.callv hΓ mvX10_pop ml_10_88 (t := 10) (ci := 10) (av := []) (rest := [.int (1 : Int32), .ref 10]) (r := (some (.int (f_X10_pop σ).1))) (σ' := (f_X10_pop σ).2) (T_X10_pop (E := fhEn Γ) (d := fhD Γ - 1) hE (by omega) σ) (by omega) (by decide +kernel) rfl rfl rfl (Nat.le_of_ble_eq_true rfl) rfl ?_
    show fhW fhYF Γ 96 [(0, .ref 10), (1, .int v1), (2, .int v2)] [.int (f_X10_pop σ).1, .int (1 : Int32), .ref 10] (f_X10_pop σ).2
    obtain ⟨q4, e6, h⟩ := fhlet_elim h
    rw [← e6]
    refine fhW.blk fhPF fhLL hΓ [(.isub, 0)] (pc' := 97) (lv' := [(0, .ref 10), (1, .int v1), (2, .int v2)]) (st' := [.int ((1 : Int32) - q4.1), .ref 10]) (σ' := q4.2) (by decide +kernel) rfl rfl rfl ?_
    refine fhW.callv hΓ mvX10_push ml_10_92 (t := 10) (ci := 10) (av := [.int ((1 : Int32) - q4.1)]) (rest := []) (r := none) (σ' := (f_X10_push ((1 : Int32) - q4.1) q4.2)) (T_X10_push (E := fhEn Γ) (d := fhD Γ - 1) hE (by omega) ((1 : Int32) - q4.1) q4.2) (by omega) (by decide +kernel) rfl rfl rfl (Nat.le_of_ble_eq_true rfl) rfl ?_
    show fhW fhYF Γ 100 [(0, .ref 10), (1, .int v1), (2, .int v2)] [] (f_X10_push ((1 : Int32) - q4.1) q4.2)
    obtain ⟨q5, e7, h⟩ := fhlet_elim h
    rw [← e7]
    refine fhW.goto hΓ (off := 44) (tgt := 144) (by decide +kernel) ?_
    have e9 := Option.some.inj h
    subst e9
    exact fhW.vret hΓ (by decide +kernel) hk
  rw [if_neg hc] at h
  refine fhsw_n ?_
  refine fhW.blk fhPF fhLL hΓ [(.aload_n 0, 0)] (pc' := 104) (lv' := [(0, .ref 10), (1, .int v1), (2, .int v2)]) (st' := [.ref 10]) (σ' := σ) (by decide +kernel) rfl rfl rfl ?_
  refine fhW.callv hΓ mvX10_pop ml_10_88 (t := 10) (ci := 10) (av := []) (rest := []) (r := (some (.int (f_X10_pop σ).1))) (σ' := (f_X10_pop σ).2) (T_X10_pop (E := fhEn Γ) (d := fhD Γ - 1) hE (by omega) σ) (by omega) (by decide +kernel) rfl rfl rfl (Nat.le_of_ble_eq_true rfl) rfl ?_
  show fhW fhYF Γ 107 [(0, .ref 10), (1, .int v1), (2, .int v2)] [.int (f_X10_pop σ).1] (f_X10_pop σ).2
  obtain ⟨q6, e8, h⟩ := fhlet_elim h
  rw [← e8]
  refine fhW.blk fhPF fhLL hΓ [(.istore 4, 0), (.aload_n 0, 0)] (pc' := 110) (lv' := [(4, .int q6.1), (0, .ref 10), (1, .int v1), (2, .int v2)]) (st' := [.ref 10]) (σ' := q6.2) (by decide +kernel) rfl rfl rfl ?_
  refine fhW.callv hΓ mvX10_pop ml_10_88 (t := 10) (ci := 10) (av := []) (rest := []) (r := (some (.int (f_X10_pop q6.2).1))) (σ' := (f_X10_pop q6.2).2) (T_X10_pop (E := fhEn Γ) (d := fhD Γ - 1) hE (by omega) q6.2) (by omega) (by decide +kernel) rfl rfl rfl (Nat.le_of_ble_eq_true rfl) rfl ?_
  show fhW fhYF Γ 113 [(4, .int q6.1), (0, .ref 10), (1, .int v1), (2, .int v2)] [.int (f_X10_pop q6.2).1] (f_X10_pop q6.2).2
  obtain ⟨q7, e9, h⟩ := fhlet_elim h
  rw [← e9]
  refine fhW.blk fhPF fhLL hΓ [(.istore 5, 0), (.aload_n 0, 0), (.iload_n 1, 0), (.bipush 10, 10)] (pc' := 119) (lv' := [(5, .int q7.1), (4, .int q6.1), (0, .ref 10), (1, .int v1), (2, .int v2)]) (st' := [.int (10 : Int32), .int v1, .ref 10]) (σ' := q7.2) (by decide +kernel) rfl rfl rfl ?_
  refine fhW.i_ge hΓ (tgt := 133) (show fhbk _ _ (.if_icmp .ge (14)) _ = true by decide +kernel) (fun hc => ?_) (fun hc => ?_)
  · rw [if_pos hc] at h
    refine fhW.blk fhPF fhLL hΓ [(.iload_n 1, 0), (.iload 5, 0), (.iload 4, 0)] (pc' := 138) (lv' := [(5, .int q7.1), (4, .int q6.1), (0, .ref 10), (1, .int v1), (2, .int v2)]) (st' := [.int q6.1, .int q7.1, .int v1, .ref 10]) (σ' := q7.2) (by decide +kernel) rfl rfl rfl ?_
    refine fhW.calls hΓ msX10_judge ml_10_99 (av := [.int v1, .int q7.1, .int q6.1]) (rest := [.ref 10]) (r := (some (.int (f_X10_judge v1 q7.1 q6.1 q7.2)))) (σ' := q7.2) (T_X10_judge (E := fhEn Γ) (d := fhD Γ - 1) hE (by omega) v1 q7.1 q6.1 q7.2) (by omega) (by decide +kernel) rfl (Nat.le_of_ble_eq_true rfl) rfl ?_
    show fhW fhYF Γ 141 [(5, .int q7.1), (4, .int q6.1), (0, .ref 10), (1, .int v1), (2, .int v2)] [.int (f_X10_judge v1 q7.1 q6.1 q7.2), .ref 10] q7.2
    refine fhW.sub (lv' := []) [] rfl ?_
    exact L_X10_work_141 hE hΓ hd (f_X10_judge v1 q7.1 q6.1 q7.2) q7.2 _ h hk
  · rw [if_neg hc] at h
    refine fhW.blk fhPF fhLL hΓ [(.iload_n 1, 0), (.iload 5, 0), (.iload 4, 0)] (pc' := 127) (lv' := [(5, .int q7.1), (4, .int q6.1), (0, .ref 10), (1, .int v1), (2, .int v2)]) (st' := [.int q6.1, .int q7.1, .int v1, .ref 10]) (σ' := q7.2) (by decide +kernel) rfl rfl rfl ?_
    obtain ⟨q8, hb1, h⟩ := Option.bind_eq_some_iff.mp h
    refine fhW.calls hΓ msX10_reckon ml_10_95 (av := [.int v1, .int q7.1, .int q6.1]) (rest := [.ref 10]) (r := (some (.int q8))) (σ' := q7.2) (T_X10_reckon (E := fhEn Γ) (d := fhD Γ - 1) hE (by omega) v1 q7.1 q6.1 q7.2 hb1) (by omega) (by decide +kernel) rfl (Nat.le_of_ble_eq_true rfl) rfl ?_
    show fhW fhYF Γ 130 [(5, .int q7.1), (4, .int q6.1), (0, .ref 10), (1, .int v1), (2, .int v2)] [.int q8, .ref 10] q7.2
    refine fhW.goto hΓ (off := 11) (tgt := 141) (by decide +kernel) ?_
    refine fhW.sub (lv' := []) [] rfl ?_
    exact L_X10_work_141 hE hΓ hd q8 q7.2 _ h hk
set_option maxRecDepth 100000 in
theorem T_X10_work {E : fhE} {d : Nat} (hE : fhEok fhYF E) (hd : 3 ≤ d) (v1 : Int32) (v2 : Int32)  (σ : fhM) {o : fhM} (h : f_X10_work v1 v2 σ = some o) : fhC fhYF E d miX10_work [.ref 10, .int v1, .int v2] σ none o := by
  refine fhC.of (y := yX10_work) (cc := cX10_work) (nL := 6) (ret := none) 10 rfl (by decide +kernel) (Nat.le_of_ble_eq_true rfl) ?_
  intro Γ hΓ hR hD hEn
  subst hD; subst hEn
  exact L_X10_work_E hE hΓ hd v1 v2  σ _ h hR
set_option maxRecDepth 100000 in
set_option maxHeartbeats 4000000 in
theorem L_X10_value_8 {Γ : fhX} (hE : fhEok fhYF (fhEn Γ)) (hΓ : fhOk fhYF 10 cX10_value 6 (some .int) Γ) (hd : 4 ≤ fhD Γ) (v1 : Nat) (v3 : Int32) (v4 : Int32) (hv1 : fhiK v1 = true) (σ : fhM) (o : (Int32 × fhM) ⊕ (Int32 × fhM)) (h : f_X10_value_8 v1 v3 v4 σ = some o) (hk : (fhK (fun x => fhW fhYF Γ 8 [(0, .ref 10), (1, .ref v1), (3, .int v3), (4, .int x.1)] [] x.2) (fun o => fhRet Γ (some (.int o.1)) o.2)) o) : fhW fhYF Γ 8 [(0, .ref 10), (1, .ref v1), (3, .int v3), (4, .int v4)] [] σ := by
  unfold f_X10_value_8 at h
  refine fhW.blk fhPF fhLL hΓ [(.iload 4, 0), (.iload_n 3, 0)] (pc' := 11) (lv' := [(0, .ref 10), (1, .ref v1), (3, .int v3), (4, .int v4)]) (st' := [.int v3, .int v4]) (σ' := σ) (by decide +kernel) rfl rfl rfl ?_
  refine fhW.i_ge hΓ (tgt := 44) (show fhbk _ _ (.if_icmp .ge (33)) _ = true by decide +kernel) (fun hc => ?_) (fun hc => ?_)
  · rw [if_pos hc] at h
    refine fhW.blk fhPF fhLL hΓ [(.aload_n 0, 0)] (pc' := 45) (lv' := [(0, .ref 10), (1, .ref v1), (3, .int v3), (4, .int v4)]) (st' := [.ref 10]) (σ' := σ) (by decide +kernel) rfl rfl rfl ?_
    refine fhW.callv hΓ mvX10_pop ml_10_88 (t := 10) (ci := 10) (av := []) (rest := []) (r := (some (.int (f_X10_pop σ).1))) (σ' := (f_X10_pop σ).2) (T_X10_pop (E := fhEn Γ) (d := fhD Γ - 1) hE (by omega) σ) (by omega) (by decide +kernel) rfl rfl rfl (Nat.le_of_ble_eq_true rfl) rfl ?_
    show fhW fhYF Γ 48 [(0, .ref 10), (1, .ref v1), (3, .int v3), (4, .int v4)] [.int (f_X10_pop σ).1] (f_X10_pop σ).2
    obtain ⟨q1, e1, h⟩ := fhlet_elim h
    rw [← e1]
    have e9 := Option.some.inj h
    subst e9
    exact fhW.iret hΓ (by decide +kernel) hk
  · rw [if_neg hc] at h
    refine fhW.blk fhPF fhLL hΓ [(.aload_n 1, 0), (.getfield 80, 0), (.iload 4, 0)] (pc' := 20) (lv' := [(0, .ref 10), (1, .ref v1), (3, .int v3), (4, .int v4)]) (st' := [.int v4, .ref (v1 + 1)]) (σ' := σ) (by decide +kernel) rfl rfl (by rcases fhiK_or hv1 with rfl | rfl | rfl <;> rfl) ?_
    refine fhW.callv hΓ mvX2_get ml_10_30 (t := (v1 + 1)) (ci := 2) (av := [.int v4]) (rest := []) (r := (some (.int (fcG σ (v1 + 1) v4)))) (σ' := σ) (T_X2_get (E := fhEn Γ) (d := fhD Γ - 1) hE (by omega) (v1 + 1) v4 (fhiP_ind (p := fun q => fhiC (q + 1) = true) hv1 rfl rfl) σ) (by omega) (by decide +kernel) rfl (fhiC_g (fhiP_ind (p := fun q => fhiC (q + 1) = true) hv1 rfl rfl)) rfl (Nat.le_of_ble_eq_true rfl) rfl ?_
    show fhW fhYF Γ 23 [(0, .ref 10), (1, .ref v1), (3, .int v3), (4, .int v4)] [.int (fcG σ (v1 + 1) v4)] σ
    refine fhW.blk fhPF fhLL hΓ [(.istore 5, 0), (.aload_n 0, 0), (.iload 5, 0), (.bipush 15, 15), (.iand, 0), (.iload 5, 0), (.iconst 4, 4), (.ishr, 0)] (pc' := 35) (lv' := [(5, .int (fcG σ (v1 + 1) v4)), (0, .ref 10), (1, .ref v1), (3, .int v3), (4, .int v4)]) (st' := [.int ((fcG σ (v1 + 1) v4) >>> ((4 : Int32) &&& 31)), .int ((fcG σ (v1 + 1) v4) &&& (15 : Int32)), .ref 10]) (σ' := σ) (by decide +kernel) rfl rfl rfl ?_
    obtain ⟨q2, hb1, h⟩ := Option.bind_eq_some_iff.mp h
    refine fhW.callv hΓ mvX10_work ml_10_85 (t := 10) (ci := 10) (av := [.int ((fcG σ (v1 + 1) v4) &&& (15 : Int32)), .int ((fcG σ (v1 + 1) v4) >>> ((4 : Int32) &&& 31))]) (rest := []) (r := none) (σ' := q2) (T_X10_work (E := fhEn Γ) (d := fhD Γ - 1) hE (by omega) ((fcG σ (v1 + 1) v4) &&& (15 : Int32)) ((fcG σ (v1 + 1) v4) >>> ((4 : Int32) &&& 31)) σ hb1) (by omega) (by decide +kernel) rfl rfl rfl (Nat.le_of_ble_eq_true rfl) rfl ?_
    show fhW fhYF Γ 38 [(5, .int (fcG σ (v1 + 1) v4)), (0, .ref 10), (1, .ref v1), (3, .int v3), (4, .int v4)] [] q2
    refine fhW.blk fhPF fhLL hΓ [(.iinc 4 1, 1)] (pc' := 41) (lv' := [(4, .int (v4 + (1 : Int32))), (5, .int (fcG σ (v1 + 1) v4)), (0, .ref 10), (1, .ref v1), (3, .int v3)]) (st' := []) (σ' := q2) (by decide +kernel) rfl rfl rfl ?_
    refine fhW.goto hΓ (off := (-33)) (tgt := 8) (by decide +kernel) ?_
    refine fhW.sub (lv' := [(0, .ref 10), (1, .ref v1), (3, .int v3), (4, .int (v4 + (1 : Int32)))]) [2, 3, 4, 0] rfl ?_
    have e9 := Option.some.inj h
    subst e9
    exact hk
set_option maxRecDepth 100000 in
set_option maxHeartbeats 4000000 in
theorem L_X10_value_E {Γ : fhX} (hE : fhEok fhYF (fhEn Γ)) (hΓ : fhOk fhYF 10 cX10_value 6 (some .int) Γ) (hd : 4 ≤ fhD Γ) (v1 : Nat) (v2 : Int32) (v3 : Int32) (hv1 : fhiK v1 = true) (σ : fhM) (o : Int32 × fhM) (h : f_X10_value v1 v2 v3 σ = some o) (hk : (fun o => fhRet Γ (some (.int o.1)) o.2) o) : fhW fhYF Γ 0 [(0, .ref 10), (1, .ref v1), (2, .int v2), (3, .int v3)] [] σ := by
  unfold f_X10_value at h
  refine fhW.blk fhPF fhLL hΓ [(.aload_n 0, 0), (.iconst 0, 0), (.putfield 77, 0), (.iload_n 2, 0), (.istore 4, 0)] (pc' := 8) (lv' := [(4, .int v2), (0, .ref 10), (1, .ref v1), (2, .int v2), (3, .int v3)]) (st' := []) (σ' := (fhI σ 10 2 (0 : Int32))) (by decide +kernel) rfl rfl rfl ?_
  refine fhW.sub (lv' := [(0, .ref 10), (1, .ref v1), (3, .int v3), (4, .int v2)]) [1, 2, 4, 0] rfl ?_
  exact fhlp_ok (W := (fun x => fhW fhYF Γ 8 [(0, .ref 10), (1, .ref v1), (3, .int v3), (4, .int x.1)] [] x.2)) (B := (fun o => fhRet Γ (some (.int o.1)) o.2)) (fun x o h hk => L_X10_value_8 hE hΓ hd v1 v3 x.1 hv1 x.2 o h hk) (v2, (fhI σ 10 2 (0 : Int32))) _ h hk
set_option maxRecDepth 100000 in
theorem T_X10_value {E : fhE} {d : Nat} (hE : fhEok fhYF E) (hd : 4 ≤ d) (v1 : Nat) (v2 : Int32) (v3 : Int32) (hv1 : fhiK v1 = true) (σ : fhM) {o : Int32 × fhM} (h : f_X10_value v1 v2 v3 σ = some o) : fhC fhYF E d miX10_value [.ref 10, .ref v1, .int v2, .int v3] σ (some (.int o.1)) o.2 := by
  refine fhC.of (y := yX10_value) (cc := cX10_value) (nL := 6) (ret := (some .int)) 10 rfl (by decide +kernel) (Nat.le_of_ble_eq_true rfl) ?_
  intro Γ hΓ hR hD hEn
  subst hD; subst hEn
  exact L_X10_value_E hE hΓ hd v1 v2 v3 hv1 σ _ h hR
set_option maxRecDepth 100000 in
set_option maxHeartbeats 4000000 in
theorem L_X7_rulesHold_2 {Γ : fhX} (hE : fhEok fhYF (fhEn Γ)) (hΓ : fhOk fhYF 7 cX7_rulesHold 3 (some .boolean) Γ) (hd : 5 ≤ fhD Γ) (v0 : Nat) (v2 : Int32) (hv0 : fhiP v0 = true) (σ : fhM) (o : (Int32 × fhM) ⊕ (Bool × fhM)) (h : f_X7_rulesHold_2 v0 v2 σ = some o) (hk : (fhK (fun x => fhW fhYF Γ 2 [(0, .ref v0), (1, .ref 10), (2, .int x.1)] [] x.2) (fun o => fhRet Γ (some (.int (fhb o.1))) o.2)) o) : fhW fhYF Γ 2 [(0, .ref v0), (1, .ref 10), (2, .int v2)] [] σ := by
  unfold f_X7_rulesHold_2 at h
  refine fhW.blk fhPF fhLL hΓ [(.iload_n 2, 0), (.aload_n 0, 0), (.getfield 90, 0)] (pc' := 7) (lv' := [(0, .ref v0), (1, .ref 10), (2, .int v2)]) (st' := [.int (σ.1 v0 11), .int v2]) (σ' := σ) (by decide +kernel) rfl rfl (by rcases fhiP_or hv0 with rfl | rfl <;> rfl) ?_
  refine fhW.i_ge hΓ (tgt := 51) (show fhbk _ _ (.if_icmp .ge (44)) _ = true by decide +kernel) (fun hc => ?_) (fun hc => ?_)
  · rw [if_pos hc] at h
    refine fhW.blk fhPF fhLL hΓ [(.iconst 1, 1)] (pc' := 52) (lv' := [(0, .ref v0), (1, .ref 10), (2, .int v2)]) (st' := [.int (1 : Int32)]) (σ' := σ) (by decide +kernel) rfl rfl rfl ?_
    have e9 := Option.some.inj h
    subst e9
    exact fhW.zret (v := true) hΓ (by decide +kernel) hk
  · rw [if_neg hc] at h
    refine fhW.blk fhPF fhLL hΓ [(.aload_n 1, 0), (.aload_n 0, 0), (.getfield 12, 0), (.aload_n 0, 0), (.getfield 27, 0), (.iconst 2, 2), (.iload_n 2, 0), (.imul, 0)] (pc' := 22) (lv' := [(0, .ref v0), (1, .ref 10), (2, .int v2)]) (st' := [.int ((2 : Int32) * v2), .ref (v0 + 6), .ref (v0 + 1), .ref 10]) (σ' := σ) (by decide +kernel) rfl rfl (by rcases fhiP_or hv0 with rfl | rfl <;> rfl) ?_
    refine fhW.callv hΓ mvX2_get ml_7_163 (t := (v0 + 6)) (ci := 2) (av := [.int ((2 : Int32) * v2)]) (rest := [.ref (v0 + 1), .ref 10]) (r := (some (.int (fcG σ (v0 + 6) ((2 : Int32) * v2))))) (σ' := σ) (T_X2_get (E := fhEn Γ) (d := fhD Γ - 1) hE (by omega) (v0 + 6) ((2 : Int32) * v2) (fhiP_ind (p := fun q => fhiC (q + 6) = true) hv0 rfl rfl) σ) (by omega) (by decide +kernel) rfl (fhiC_g (fhiP_ind (p := fun q => fhiC (q + 6) = true) hv0 rfl rfl)) rfl (Nat.le_of_ble_eq_true rfl) rfl ?_
    show fhW fhYF Γ 25 [(0, .ref v0), (1, .ref 10), (2, .int v2)] [.int (fcG σ (v0 + 6) ((2 : Int32) * v2)), .ref (v0 + 1), .ref 10] σ
    refine fhW.blk fhPF fhLL hΓ [(.aload_n 0, 0), (.getfield 27, 0), (.iconst 2, 2), (.iload_n 2, 0), (.imul, 0), (.iconst 1, 1), (.iadd, 0)] (pc' := 34) (lv' := [(0, .ref v0), (1, .ref 10), (2, .int v2)]) (st' := [.int (((2 : Int32) * v2) + (1 : Int32)), .ref (v0 + 6), .int (fcG σ (v0 + 6) ((2 : Int32) * v2)), .ref (v0 + 1), .ref 10]) (σ' := σ) (by decide +kernel) rfl rfl (by rcases fhiP_or hv0 with rfl | rfl <;> rfl) ?_
    refine fhW.callv hΓ mvX2_get ml_7_163 (t := (v0 + 6)) (ci := 2) (av := [.int (((2 : Int32) * v2) + (1 : Int32))]) (rest := [.int (fcG σ (v0 + 6) ((2 : Int32) * v2)), .ref (v0 + 1), .ref 10]) (r := (some (.int (fcG σ (v0 + 6) (((2 : Int32) * v2) + (1 : Int32)))))) (σ' := σ) (T_X2_get (E := fhEn Γ) (d := fhD Γ - 1) hE (by omega) (v0 + 6) (((2 : Int32) * v2) + (1 : Int32)) (fhiP_ind (p := fun q => fhiC (q + 6) = true) hv0 rfl rfl) σ) (by omega) (by decide +kernel) rfl (fhiC_g (fhiP_ind (p := fun q => fhiC (q + 6) = true) hv0 rfl rfl)) rfl (Nat.le_of_ble_eq_true rfl) rfl ?_
    show fhW fhYF Γ 37 [(0, .ref v0), (1, .ref 10), (2, .int v2)] [.int (fcG σ (v0 + 6) (((2 : Int32) * v2) + (1 : Int32))), .int (fcG σ (v0 + 6) ((2 : Int32) * v2)), .ref (v0 + 1), .ref 10] σ
    obtain ⟨q1, hb1, h⟩ := Option.bind_eq_some_iff.mp h
    refine fhW.callv hΓ mvX10_value ml_7_166 (t := 10) (ci := 10) (av := [.ref (v0 + 1), .int (fcG σ (v0 + 6) ((2 : Int32) * v2)), .int (fcG σ (v0 + 6) (((2 : Int32) * v2) + (1 : Int32)))]) (rest := []) (r := (some (.int q1.1))) (σ' := q1.2) (T_X10_value (E := fhEn Γ) (d := fhD Γ - 1) hE (by omega) (v0 + 1) (fcG σ (v0 + 6) ((2 : Int32) * v2)) (fcG σ (v0 + 6) (((2 : Int32) * v2) + (1 : Int32))) (fhiP_ind (p := fun q => fhiK (q + 1) = true) hv0 rfl rfl) σ hb1) (by omega) (by decide +kernel) rfl rfl rfl (Nat.le_of_ble_eq_true rfl) rfl ?_
    show fhW fhYF Γ 40 [(0, .ref v0), (1, .ref 10), (2, .int v2)] [.int q1.1] q1.2
    refine fhW.z_ne hΓ (tgt := 45) (show fhbk _ _ (.ifCond .ne (5)) _ = true by decide +kernel) (fun hc => ?_) (fun hc => ?_)
    · rw [if_neg hc] at h
      refine fhW.blk fhPF fhLL hΓ [(.iinc 2 1, 1)] (pc' := 48) (lv' := [(2, .int (v2 + (1 : Int32))), (0, .ref v0), (1, .ref 10)]) (st' := []) (σ' := q1.2) (by decide +kernel) rfl rfl rfl ?_
      refine fhW.goto hΓ (off := (-46)) (tgt := 2) (by decide +kernel) ?_
      refine fhW.sub (lv' := [(0, .ref v0), (1, .ref 10), (2, .int (v2 + (1 : Int32)))]) [1, 2, 0] rfl ?_
      have e9 := Option.some.inj h
      subst e9
      exact hk
    · rw [if_pos hc] at h
      refine fhW.blk fhPF fhLL hΓ [(.iconst 0, 0)] (pc' := 44) (lv' := [(0, .ref v0), (1, .ref 10), (2, .int v2)]) (st' := [.int (0 : Int32)]) (σ' := q1.2) (by decide +kernel) rfl rfl rfl ?_
      have e9 := Option.some.inj h
      subst e9
      exact fhW.zret (v := false) hΓ (by decide +kernel) hk
set_option maxRecDepth 100000 in
set_option maxHeartbeats 4000000 in
theorem L_X7_rulesHold_E {Γ : fhX} (hE : fhEok fhYF (fhEn Γ)) (hΓ : fhOk fhYF 7 cX7_rulesHold 3 (some .boolean) Γ) (hd : 5 ≤ fhD Γ) (v0 : Nat) (hv0 : fhiP v0 = true) (σ : fhM) (o : Bool × fhM) (h : f_X7_rulesHold v0 σ = some o) (hk : (fun o => fhRet Γ (some (.int (fhb o.1))) o.2) o) : fhW fhYF Γ 0 [(0, .ref v0), (1, .ref 10)] [] σ := by
  unfold f_X7_rulesHold at h
  refine fhW.blk fhPF fhLL hΓ [(.iconst 0, 0), (.istore_n 2, 0)] (pc' := 2) (lv' := [(2, .int (0 : Int32)), (0, .ref v0), (1, .ref 10)]) (st' := []) (σ' := σ) (by decide +kernel) rfl rfl rfl ?_
  refine fhW.sub (lv' := [(0, .ref v0), (1, .ref 10), (2, .int (0 : Int32))]) [1, 2, 0] rfl ?_
  exact fhlp_ok (W := (fun x => fhW fhYF Γ 2 [(0, .ref v0), (1, .ref 10), (2, .int x.1)] [] x.2)) (B := (fun o => fhRet Γ (some (.int (fhb o.1))) o.2)) (fun x o h hk => L_X7_rulesHold_2 hE hΓ hd v0 x.1 hv0 x.2 o h hk) ((0 : Int32), σ) _ h hk
set_option maxRecDepth 100000 in
theorem T_X7_rulesHold {E : fhE} {d : Nat} (hE : fhEok fhYF E) (hd : 5 ≤ d) (v0 : Nat) (hv0 : fhiP v0 = true) (σ : fhM) {o : Bool × fhM} (h : f_X7_rulesHold v0 σ = some o) : fhC fhYF E d miX7_rulesHold [.ref v0, .ref 10] σ (some (.int (fhb o.1))) o.2 := by
  refine fhC.of (y := yX7_rulesHold) (cc := cX7_rulesHold) (nL := 3) (ret := (some .boolean)) 7 rfl (by decide +kernel) (Nat.le_of_ble_eq_true rfl) ?_
  intro Γ hΓ hR hD hEn
  subst hD; subst hEn
  exact L_X7_rulesHold_E hE hΓ hd v0 hv0 σ _ h hR
set_option maxRecDepth 100000 in
set_option maxHeartbeats 4000000 in
theorem L_X11_noteFault_33 {Γ : fhX} (hE : fhEok fhYF (fhEn Γ)) (hΓ : fhOk fhYF 11 cX11_noteFault 1 none Γ) (hd : 0 ≤ fhD Γ) (s0 : Int32)  (σ : fhM) (o : fhM) (h : f_X11_noteFault_33 s0 σ = o) (hk : (fun o => fhRet Γ none o) o) : fhW fhYF Γ 33 [] [.int s0, .ref 0] σ := by
  unfold f_X11_noteFault_33 at h
  refine fhW.blk fhPF fhLL hΓ [(.putfield 100, 0)] (pc' := 36) (lv' := []) (st' := []) (σ' := (fhI σ 0 18 s0)) (by decide +kernel) rfl rfl rfl ?_
  subst h
  exact fhW.vret hΓ (by decide +kernel) hk
set_option maxRecDepth 100000 in
set_option maxHeartbeats 4000000 in
theorem L_X11_noteFault_E {Γ : fhX} (hE : fhEok fhYF (fhEn Γ)) (hΓ : fhOk fhYF 11 cX11_noteFault 1 none Γ) (hd : 0 ≤ fhD Γ)   (σ : fhM) (o : fhM) (h : f_X11_noteFault σ = o) (hk : (fun o => fhRet Γ none o) o) : fhW fhYF Γ 0 [(0, .ref 0)] [] σ := by
  unfold f_X11_noteFault at h
  refine fhW.blk fhPF fhLL hΓ [(.aload_n 0, 0), (.aload_n 0, 0), (.getfield 21, 0), (.getfield 154, 0), (.putfield 157, 0), (.aload_n 0, 0), (.aload_n 0, 0), (.getfield 21, 0), (.getfield 154, 0)] (pc' := 19) (lv' := [(0, .ref 0)]) (st' := [.int (σ.1 3 9), .ref 0]) (σ' := (fhI σ 0 17 (σ.1 3 9))) (by decide +kernel) rfl rfl rfl ?_
  refine fhW.z_ne hΓ (tgt := 26) (show fhbk _ _ (.ifCond .ne (7)) _ = true by decide +kernel) (fun hc => ?_) (fun hc => ?_)
  · simp only [if_neg hc] at h
    refine fhW.blk fhPF fhLL hΓ [(.aload_n 0, 0), (.getfield 21, 0), (.getfield 160, 0)] (pc' := 33) (lv' := [(0, .ref 0)]) (st' := [.int (σ.1 3 10), .ref 0]) (σ' := (fhI σ 0 17 (σ.1 3 9))) (by decide +kernel) rfl rfl rfl ?_
    refine fhW.sub (lv' := []) [] rfl ?_
    exact L_X11_noteFault_33 hE hΓ hd (σ.1 3 10) (fhI σ 0 17 (σ.1 3 9)) _ h hk
  · simp only [if_pos hc] at h
    refine fhW.blk fhPF fhLL hΓ [(.iconst (-1), -1)] (pc' := 23) (lv' := [(0, .ref 0)]) (st' := [.int (-1 : Int32), .ref 0]) (σ' := (fhI σ 0 17 (σ.1 3 9))) (by decide +kernel) rfl rfl rfl ?_
    refine fhW.goto hΓ (off := 10) (tgt := 33) (by decide +kernel) ?_
    refine fhW.sub (lv' := []) [] rfl ?_
    exact L_X11_noteFault_33 hE hΓ hd (-1 : Int32) (fhI σ 0 17 (σ.1 3 9)) _ h hk
set_option maxRecDepth 100000 in
theorem T_X11_noteFault {E : fhE} {d : Nat} (hE : fhEok fhYF E) (hd : 0 ≤ d)   (σ : fhM) : fhC fhYF E d miX11_noteFault [.ref 0] σ none (f_X11_noteFault σ) := by
  refine fhC.of (y := yX11_noteFault) (cc := cX11_noteFault) (nL := 1) (ret := none) 11 rfl (by decide +kernel) (Nat.le_of_ble_eq_true rfl) ?_
  intro Γ hΓ hR hD hEn
  subst hD; subst hEn
  exact L_X11_noteFault_E hE hΓ hd   σ _ rfl hR
set_option maxRecDepth 100000 in
set_option maxHeartbeats 4000000 in
theorem L_X7_seenBy_E {Γ : fhX} (hE : fhEok fhYF (fhEn Γ)) (hΓ : fhOk fhYF 7 cX7_seenBy 2 (some .int) Γ) (hd : 1 ≤ fhD Γ) (v0 : Nat) (v1 : Int32) (hv0 : fhiP v0 = true) (σ : fhM) (o : Int32) (h : f_X7_seenBy v0 v1 σ = o) (hk : (fun o => fhRet Γ (some (.int o)) σ) o) : fhW fhYF Γ 0 [(0, .ref v0), (1, .int v1)] [] σ := by
  unfold f_X7_seenBy at h
  refine fhW.blk fhPF fhLL hΓ [(.iconst 1, 1), (.aload_n 0, 0), (.getfield 77, 0), (.ishl, 0), (.iconst 1, 1), (.isub, 0), (.iconst 1, 1), (.iload_n 1, 0), (.ishl, 0), (.iconst (-1), -1), (.ixor, 0), (.iand, 0), (.aload_n 0, 0), (.getfield 23, 0), (.iload_n 1, 0)] (pc' := 19) (lv' := [(0, .ref v0), (1, .int v1)]) (st' := [.int v1, .ref (v0 + 4), .int ((((1 : Int32) <<< ((σ.1 v0 10) &&& 31)) - (1 : Int32)) &&& (((1 : Int32) <<< (v1 &&& 31)) ^^^ (-1 : Int32)))]) (σ' := σ) (by decide +kernel) rfl rfl (by rcases fhiP_or hv0 with rfl | rfl <;> rfl) ?_
  refine fhW.callv hΓ mvX2_get ml_7_163 (t := (v0 + 4)) (ci := 2) (av := [.int v1]) (rest := [.int ((((1 : Int32) <<< ((σ.1 v0 10) &&& 31)) - (1 : Int32)) &&& (((1 : Int32) <<< (v1 &&& 31)) ^^^ (-1 : Int32)))]) (r := (some (.int (fcG σ (v0 + 4) v1)))) (σ' := σ) (T_X2_get (E := fhEn Γ) (d := fhD Γ - 1) hE (by omega) (v0 + 4) v1 (fhiP_ind (p := fun q => fhiC (q + 4) = true) hv0 rfl rfl) σ) (by omega) (by decide +kernel) rfl (fhiC_g (fhiP_ind (p := fun q => fhiC (q + 4) = true) hv0 rfl rfl)) rfl (Nat.le_of_ble_eq_true rfl) rfl ?_
  show fhW fhYF Γ 22 [(0, .ref v0), (1, .int v1)] [.int (fcG σ (v0 + 4) v1), .int ((((1 : Int32) <<< ((σ.1 v0 10) &&& 31)) - (1 : Int32)) &&& (((1 : Int32) <<< (v1 &&& 31)) ^^^ (-1 : Int32)))] σ
  refine fhW.blk fhPF fhLL hΓ [(.iconst (-1), -1), (.ixor, 0), (.iand, 0)] (pc' := 25) (lv' := [(0, .ref v0), (1, .int v1)]) (st' := [.int (((((1 : Int32) <<< ((σ.1 v0 10) &&& 31)) - (1 : Int32)) &&& (((1 : Int32) <<< (v1 &&& 31)) ^^^ (-1 : Int32))) &&& ((fcG σ (v0 + 4) v1) ^^^ (-1 : Int32)))]) (σ' := σ) (by decide +kernel) rfl rfl rfl ?_
  subst h
  exact fhW.iret hΓ (by decide +kernel) hk
set_option maxRecDepth 100000 in
theorem T_X7_seenBy {E : fhE} {d : Nat} (hE : fhEok fhYF E) (hd : 1 ≤ d) (v0 : Nat) (v1 : Int32) (hv0 : fhiP v0 = true) (σ : fhM) : fhC fhYF E d miX7_seenBy [.ref v0, .int v1] σ (some (.int (f_X7_seenBy v0 v1 σ))) σ := by
  refine fhC.of (y := yX7_seenBy) (cc := cX7_seenBy) (nL := 2) (ret := (some .int)) 7 rfl (by decide +kernel) (Nat.le_of_ble_eq_true rfl) ?_
  intro Γ hΓ hR hD hEn
  subst hD; subst hEn
  exact L_X7_seenBy_E hE hΓ hd v0 v1 hv0 σ _ rfl hR
set_option maxRecDepth 100000 in
set_option maxHeartbeats 4000000 in
theorem L_X9_markOf_E {Γ : fhX} (hE : fhEok fhYF (fhEn Γ)) (hΓ : fhOk fhYF 9 cX9_markOf 3 (some .int) Γ) (hd : 1 ≤ fhD Γ) (v1 : Int32) (v2 : Int32)  (σ : fhM) (o : Int32) (h : f_X9_markOf v1 v2 σ = o) (hk : (fun o => fhRet Γ (some (.int o)) σ) o) : fhW fhYF Γ 0 [(0, .ref 39), (1, .int v1), (2, .int v2)] [] σ := by
  unfold f_X9_markOf at h
  refine fhW.blk fhPF fhLL hΓ [(.aload_n 0, 0), (.getfield 20, 0), (.iload_n 1, 0), (.iconst 5, 5), (.imul, 0), (.iload_n 2, 0), (.iadd, 0)] (pc' := 9) (lv' := [(0, .ref 39), (1, .int v1), (2, .int v2)]) (st' := [.int ((v1 * (5 : Int32)) + v2), .ref 42]) (σ' := σ) (by decide +kernel) rfl rfl rfl ?_
  refine fhW.callv hΓ mvX2_get ml_9_60 (t := 42) (ci := 2) (av := [.int ((v1 * (5 : Int32)) + v2)]) (rest := []) (r := (some (.int (fcG σ 42 ((v1 * (5 : Int32)) + v2))))) (σ' := σ) (T_X2_get (E := fhEn Γ) (d := fhD Γ - 1) hE (by omega) 42 ((v1 * (5 : Int32)) + v2) rfl σ) (by omega) (by decide +kernel) rfl rfl rfl (Nat.le_of_ble_eq_true rfl) rfl ?_
  show fhW fhYF Γ 12 [(0, .ref 39), (1, .int v1), (2, .int v2)] [.int (fcG σ 42 ((v1 * (5 : Int32)) + v2))] σ
  subst h
  exact fhW.iret hΓ (by decide +kernel) hk
set_option maxRecDepth 100000 in
theorem T_X9_markOf {E : fhE} {d : Nat} (hE : fhEok fhYF E) (hd : 1 ≤ d) (v1 : Int32) (v2 : Int32)  (σ : fhM) : fhC fhYF E d miX9_markOf [.ref 39, .int v1, .int v2] σ (some (.int (f_X9_markOf v1 v2 σ))) σ := by
  refine fhC.of (y := yX9_markOf) (cc := cX9_markOf) (nL := 3) (ret := (some .int)) 9 rfl (by decide +kernel) (Nat.le_of_ble_eq_true rfl) ?_
  intro Γ hΓ hR hD hEn
  subst hD; subst hEn
  exact L_X9_markOf_E hE hΓ hd v1 v2  σ _ rfl hR
set_option maxRecDepth 100000 in
set_option maxHeartbeats 4000000 in
theorem L_X9_fillViews_113 {Γ : fhX} (hE : fhEok fhYF (fhEn Γ)) (hΓ : fhOk fhYF 9 cX9_fillViews 6 none Γ) (hd : 2 ≤ fhD Γ) (v1 : Int32) (v3 : Int32) (v4 : Int32) (v5 : Int32)  (σ : fhM) (o : (Int32 × Int32) ⊕ ((Int32 × fhM) ⊕ (fhM))) (h : f_X9_fillViews_113 v1 v3 v4 v5 σ = some o) (hk : (fhK (fun x => fhW fhYF Γ 66 [(0, .ref 39), (1, .int v1), (3, .int v3), (4, .int x.1), (5, .int x.2)] [] σ) (fhK (fun x => fhW fhYF Γ 52 [(0, .ref 39), (1, .int v1), (3, .int x.1)] [] x.2) (fun o => fhRet Γ none o))) o) : fhW fhYF Γ 113 [(0, .ref 39), (1, .int v1), (3, .int v3), (4, .int v4), (5, .int v5)] [] σ := by
  unfold f_X9_fillViews_113 at h
  refine fhW.blk fhPF fhLL hΓ [(.iinc 5 1, 1)] (pc' := 116) (lv' := [(5, .int (v5 + (1 : Int32))), (0, .ref 39), (1, .int v1), (3, .int v3), (4, .int v4)]) (st' := []) (σ' := σ) (by decide +kernel) rfl rfl rfl ?_
  refine fhW.goto hΓ (off := (-50)) (tgt := 66) (by decide +kernel) ?_
  refine fhW.sub (lv' := [(0, .ref 39), (1, .int v1), (3, .int v3), (4, .int v4), (5, .int (v5 + (1 : Int32)))]) [1, 2, 3, 4, 0] rfl ?_
  have e9 := Option.some.inj h
  subst e9
  exact hk
set_option maxRecDepth 100000 in
set_option maxHeartbeats 4000000 in
theorem L_X9_fillViews_66 {Γ : fhX} (hE : fhEok fhYF (fhEn Γ)) (hΓ : fhOk fhYF 9 cX9_fillViews 6 none Γ) (hd : 2 ≤ fhD Γ) (v1 : Int32) (v3 : Int32) (v4 : Int32) (v5 : Int32)  (σ : fhM) (o : (Int32 × Int32) ⊕ ((Int32 × fhM) ⊕ (fhM))) (h : f_X9_fillViews_66 v1 v3 v4 v5 σ = some o) (hk : (fhK (fun x => fhW fhYF Γ 66 [(0, .ref 39), (1, .int v1), (3, .int v3), (4, .int x.1), (5, .int x.2)] [] σ) (fhK (fun x => fhW fhYF Γ 52 [(0, .ref 39), (1, .int v1), (3, .int x.1)] [] x.2) (fun o => fhRet Γ none o))) o) : fhW fhYF Γ 66 [(0, .ref 39), (1, .int v1), (3, .int v3), (4, .int v4), (5, .int v5)] [] σ := by
  unfold f_X9_fillViews_66 at h
  refine fhW.blk fhPF fhLL hΓ [(.iload 5, 0), (.aload_n 0, 0), (.getfield 51, 0)] (pc' := 72) (lv' := [(0, .ref 39), (1, .int v1), (3, .int v3), (4, .int v4), (5, .int v5)]) (st' := [.int (σ.1 39 9), .int v5]) (σ' := σ) (by decide +kernel) rfl rfl rfl ?_
  refine fhW.i_ge hΓ (tgt := 119) (show fhbk _ _ (.if_icmp .ge (47)) _ = true by decide +kernel) (fun hc => ?_) (fun hc => ?_)
  · rw [if_pos hc] at h
    refine fhW.blk fhPF fhLL hΓ [(.aload_n 0, 0), (.getfield 23, 0), (.iload_n 1, 0), (.iconst 5, 5), (.imul, 0), (.iload_n 3, 0), (.iadd, 0), (.iload 4, 0)] (pc' := 130) (lv' := [(0, .ref 39), (1, .int v1), (3, .int v3), (4, .int v4), (5, .int v5)]) (st' := [.int v4, .int ((v1 * (5 : Int32)) + v3), .ref 44]) (σ' := σ) (by decide +kernel) rfl rfl rfl ?_
    refine fhW.callv hΓ mvX2_put ml_9_56 (t := 44) (ci := 2) (av := [.int ((v1 * (5 : Int32)) + v3), .int v4]) (rest := []) (r := none) (σ' := (fcP σ 44 ((v1 * (5 : Int32)) + v3) v4)) (T_X2_put (E := fhEn Γ) (d := fhD Γ - 1) hE (by omega) 44 ((v1 * (5 : Int32)) + v3) v4 rfl σ) (by omega) (by decide +kernel) rfl rfl rfl (Nat.le_of_ble_eq_true rfl) rfl ?_
    show fhW fhYF Γ 133 [(0, .ref 39), (1, .int v1), (3, .int v3), (4, .int v4), (5, .int v5)] [] (fcP σ 44 ((v1 * (5 : Int32)) + v3) v4)
    refine fhW.blk fhPF fhLL hΓ [(.iinc 3 1, 1)] (pc' := 136) (lv' := [(3, .int (v3 + (1 : Int32))), (0, .ref 39), (1, .int v1), (4, .int v4), (5, .int v5)]) (st' := []) (σ' := (fcP σ 44 ((v1 * (5 : Int32)) + v3) v4)) (by decide +kernel) rfl rfl rfl ?_
    refine fhW.goto hΓ (off := (-84)) (tgt := 52) (by decide +kernel) ?_
    refine fhW.sub (lv' := [(0, .ref 39), (1, .int v1), (3, .int (v3 + (1 : Int32)))]) [1, 2, 0] rfl ?_
    have e9 := Option.some.inj h
    subst e9
    exact hk
  · rw [if_neg hc] at h
    refine fhW.blk fhPF fhLL hΓ [(.aload_n 0, 0), (.getfield 32, 0), (.iload_n 3, 0)] (pc' := 80) (lv' := [(0, .ref 39), (1, .int v1), (3, .int v3), (4, .int v4), (5, .int v5)]) (st' := [.int v3, .ref 50]) (σ' := σ) (by decide +kernel) rfl rfl rfl ?_
    refine fhW.callv hΓ mvX2_get ml_9_60 (t := 50) (ci := 2) (av := [.int v3]) (rest := []) (r := (some (.int (fcG σ 50 v3)))) (σ' := σ) (T_X2_get (E := fhEn Γ) (d := fhD Γ - 1) hE (by omega) 50 v3 rfl σ) (by omega) (by decide +kernel) rfl rfl rfl (Nat.le_of_ble_eq_true rfl) rfl ?_
    show fhW fhYF Γ 83 [(0, .ref 39), (1, .int v1), (3, .int v3), (4, .int v4), (5, .int v5)] [.int (fcG σ 50 v3)] σ
    refine fhW.blk fhPF fhLL hΓ [(.iload 5, 0), (.ishr, 0), (.iconst 1, 1), (.iand, 0)] (pc' := 88) (lv' := [(0, .ref 39), (1, .int v1), (3, .int v3), (4, .int v4), (5, .int v5)]) (st' := [.int (((fcG σ 50 v3) >>> (v5 &&& 31)) &&& (1 : Int32))]) (σ' := σ) (by decide +kernel) rfl rfl rfl ?_
    refine fhW.z_eq hΓ (tgt := 113) (show fhbk _ _ (.ifCond .eq (25)) _ = true by decide +kernel) (fun hc => ?_) (fun hc => ?_)
    · simp only [if_pos hc] at h
      refine fhW.sub (lv' := [(0, .ref 39), (1, .int v1), (3, .int v3), (4, .int v4), (5, .int v5)]) [0, 1, 2, 3, 4] rfl ?_
      exact L_X9_fillViews_113 hE hΓ hd v1 v3 v4 v5 σ _ h hk
    · simp only [if_neg hc] at h
      refine fhW.blk fhPF fhLL hΓ [(.iload 4, 0), (.aload_n 0, 0), (.iload_n 1, 0), (.iload 5, 0)] (pc' := 97) (lv' := [(0, .ref 39), (1, .int v1), (3, .int v3), (4, .int v4), (5, .int v5)]) (st' := [.int v5, .int v1, .ref 39, .int v4]) (σ' := σ) (by decide +kernel) rfl rfl rfl ?_
      refine fhW.callv hΓ mvX9_markOf ml_9_99 (t := 39) (ci := 9) (av := [.int v1, .int v5]) (rest := [.int v4]) (r := (some (.int (f_X9_markOf v1 v5 σ)))) (σ' := σ) (T_X9_markOf (E := fhEn Γ) (d := fhD Γ - 1) hE (by omega) v1 v5 σ) (by omega) (by decide +kernel) rfl rfl rfl (Nat.le_of_ble_eq_true rfl) rfl ?_
      show fhW fhYF Γ 100 [(0, .ref 39), (1, .int v1), (3, .int v3), (4, .int v4), (5, .int v5)] [.int (f_X9_markOf v1 v5 σ), .int v4] σ
      refine fhW.blk fhPF fhLL hΓ [(.aload_n 0, 0), (.getfield 14, 0), (.iload 5, 0)] (pc' := 106) (lv' := [(0, .ref 39), (1, .int v1), (3, .int v3), (4, .int v4), (5, .int v5)]) (st' := [.int v5, .ref 40, .int (f_X9_markOf v1 v5 σ), .int v4]) (σ' := σ) (by decide +kernel) rfl rfl rfl ?_
      refine fhW.callv hΓ mvX2_get ml_9_60 (t := 40) (ci := 2) (av := [.int v5]) (rest := [.int (f_X9_markOf v1 v5 σ), .int v4]) (r := (some (.int (fcG σ 40 v5)))) (σ' := σ) (T_X2_get (E := fhEn Γ) (d := fhD Γ - 1) hE (by omega) 40 v5 rfl σ) (by omega) (by decide +kernel) rfl rfl rfl (Nat.le_of_ble_eq_true rfl) rfl ?_
      show fhW fhYF Γ 109 [(0, .ref 39), (1, .int v1), (3, .int v3), (4, .int v4), (5, .int v5)] [.int (fcG σ 40 v5), .int (f_X9_markOf v1 v5 σ), .int v4] σ
      refine fhW.blk fhPF fhLL hΓ [(.imul, 0), (.iadd, 0), (.istore 4, 0)] (pc' := 113) (lv' := [(4, .int (v4 + ((f_X9_markOf v1 v5 σ) * (fcG σ 40 v5)))), (0, .ref 39), (1, .int v1), (3, .int v3), (5, .int v5)]) (st' := []) (σ' := σ) (by decide +kernel) rfl rfl rfl ?_
      refine fhW.sub (lv' := [(0, .ref 39), (1, .int v1), (3, .int v3), (4, .int (v4 + ((f_X9_markOf v1 v5 σ) * (fcG σ 40 v5)))), (5, .int v5)]) [1, 2, 3, 0, 4] rfl ?_
      exact L_X9_fillViews_113 hE hΓ hd v1 v3 (v4 + ((f_X9_markOf v1 v5 σ) * (fcG σ 40 v5))) v5 σ _ h hk
set_option maxRecDepth 100000 in
set_option maxHeartbeats 4000000 in
theorem L_X9_fillViews_52 {Γ : fhX} (hE : fhEok fhYF (fhEn Γ)) (hΓ : fhOk fhYF 9 cX9_fillViews 6 none Γ) (hd : 2 ≤ fhD Γ) (v1 : Int32) (v3 : Int32)  (σ : fhM) (o : (Int32 × fhM) ⊕ (fhM)) (h : f_X9_fillViews_52 v1 v3 σ = some o) (hk : (fhK (fun x => fhW fhYF Γ 52 [(0, .ref 39), (1, .int v1), (3, .int x.1)] [] x.2) (fun o => fhRet Γ none o)) o) : fhW fhYF Γ 52 [(0, .ref 39), (1, .int v1), (3, .int v3)] [] σ := by
  unfold f_X9_fillViews_52 at h
  refine fhW.blk fhPF fhLL hΓ [(.iload_n 3, 0), (.aload_n 0, 0), (.getfield 51, 0)] (pc' := 57) (lv' := [(0, .ref 39), (1, .int v1), (3, .int v3)]) (st' := [.int (σ.1 39 9), .int v3]) (σ' := σ) (by decide +kernel) rfl rfl rfl ?_
  refine fhW.i_ge hΓ (tgt := 139) (show fhbk _ _ (.if_icmp .ge (82)) _ = true by decide +kernel) (fun hc => ?_) (fun hc => ?_)
  · rw [if_pos hc] at h
    have e9 := Option.some.inj h
    subst e9
    exact fhW.vret hΓ (by decide +kernel) hk
  · rw [if_neg hc] at h
    refine fhW.blk fhPF fhLL hΓ [(.iconst 0, 0), (.istore 4, 0), (.iconst 0, 0), (.istore 5, 0)] (pc' := 66) (lv' := [(5, .int (0 : Int32)), (4, .int (0 : Int32)), (0, .ref 39), (1, .int v1), (3, .int v3)]) (st' := []) (σ' := σ) (by decide +kernel) rfl rfl rfl ?_
    refine fhW.sub (lv' := [(0, .ref 39), (1, .int v1), (3, .int v3), (4, .int (0 : Int32)), (5, .int (0 : Int32))]) [2, 3, 4, 1, 0] rfl ?_
    exact fhlp_ok (W := (fun x => fhW fhYF Γ 66 [(0, .ref 39), (1, .int v1), (3, .int v3), (4, .int x.1), (5, .int x.2)] [] σ)) (B := (fhK (fun x => fhW fhYF Γ 52 [(0, .ref 39), (1, .int v1), (3, .int x.1)] [] x.2) (fun o => fhRet Γ none o))) (fun x o h hk => L_X9_fillViews_66 hE hΓ hd v1 v3 x.1 x.2 σ o h hk) ((0 : Int32), (0 : Int32)) _ h hk
set_option maxRecDepth 100000 in
set_option maxHeartbeats 4000000 in
theorem L_X9_fillViews_50 {Γ : fhX} (hE : fhEok fhYF (fhEn Γ)) (hΓ : fhOk fhYF 9 cX9_fillViews 6 none Γ) (hd : 2 ≤ fhD Γ) (v1 : Int32)  (σ : fhM) (o : fhM) (h : f_X9_fillViews_50 v1 σ = some o) (hk : (fun o => fhRet Γ none o) o) : fhW fhYF Γ 50 [(0, .ref 39), (1, .int v1)] [] σ := by
  unfold f_X9_fillViews_50 at h
  refine fhW.blk fhPF fhLL hΓ [(.iconst 0, 0), (.istore_n 3, 0)] (pc' := 52) (lv' := [(3, .int (0 : Int32)), (0, .ref 39), (1, .int v1)]) (st' := []) (σ' := σ) (by decide +kernel) rfl rfl rfl ?_
  refine fhW.sub (lv' := [(0, .ref 39), (1, .int v1), (3, .int (0 : Int32))]) [1, 2, 0] rfl ?_
  exact fhlp_ok (W := (fun x => fhW fhYF Γ 52 [(0, .ref 39), (1, .int v1), (3, .int x.1)] [] x.2)) (B := (fun o => fhRet Γ none o)) (fun x o h hk => L_X9_fillViews_52 hE hΓ hd v1 x.1 x.2 o h hk) ((0 : Int32), σ) _ h hk
set_option maxRecDepth 100000 in
set_option maxHeartbeats 4000000 in
theorem L_X9_fillViews_4 {Γ : fhX} (hE : fhEok fhYF (fhEn Γ)) (hΓ : fhOk fhYF 9 cX9_fillViews 6 none Γ) (hd : 2 ≤ fhD Γ) (v1 : Int32) (v2 : Int32) (v3 : Int32)  (σ : fhM) (o : (Int32 × Int32 × fhM) ⊕ (fhM)) (h : f_X9_fillViews_4 v1 v2 v3 σ = some o) (hk : (fhK (fun x => fhW fhYF Γ 4 [(0, .ref 39), (1, .int v1), (2, .int x.1), (3, .int x.2.1)] [] x.2.2) (fun o => fhRet Γ none o)) o) : fhW fhYF Γ 4 [(0, .ref 39), (1, .int v1), (2, .int v2), (3, .int v3)] [] σ := by
  unfold f_X9_fillViews_4 at h
  refine fhW.blk fhPF fhLL hΓ [(.iload_n 3, 0), (.aload_n 0, 0), (.getfield 51, 0)] (pc' := 9) (lv' := [(0, .ref 39), (1, .int v1), (2, .int v2), (3, .int v3)]) (st' := [.int (σ.1 39 9), .int v3]) (σ' := σ) (by decide +kernel) rfl rfl rfl ?_
  refine fhW.i_ge hΓ (tgt := 50) (show fhbk _ _ (.if_icmp .ge (41)) _ = true by decide +kernel) (fun hc => ?_) (fun hc => ?_)
  · rw [if_pos hc] at h
    refine fhW.sub (lv' := [(0, .ref 39), (1, .int v1)]) [0, 1] rfl ?_
    obtain ⟨z1, hz, e1⟩ := Option.map_eq_some_iff.mp h
    clear h
    subst e1
    have h := hz
    have hk : (fun o => fhRet Γ none o) z1 := hk
    exact L_X9_fillViews_50 hE hΓ hd v1 σ _ h hk
  · rw [if_neg hc] at h
    refine fhW.blk fhPF fhLL hΓ [(.aload_n 0, 0), (.getfield 47, 0)] (pc' := 16) (lv' := [(0, .ref 39), (1, .int v1), (2, .int v2), (3, .int v3)]) (st' := [.int (σ.1 39 5)]) (σ' := σ) (by decide +kernel) rfl rfl rfl ?_
    refine fhW.z_le hΓ (tgt := 50) (show fhbk _ _ (.ifCond .le (34)) _ = true by decide +kernel) (fun hc => ?_) (fun hc => ?_)
    · rw [if_pos hc] at h
      refine fhW.sub (lv' := [(0, .ref 39), (1, .int v1)]) [0, 1] rfl ?_
      obtain ⟨z2, hz, e2⟩ := Option.map_eq_some_iff.mp h
      clear h
      subst e2
      have h := hz
      have hk : (fun o => fhRet Γ none o) z2 := hk
      exact L_X9_fillViews_50 hE hΓ hd v1 σ _ h hk
    · rw [if_neg hc] at h
      obtain ⟨hg1, h⟩ := fhif h
      refine fhW.blk fhPF fhLL hΓ [(.aload_n 0, 0), (.getfield 20, 0), (.iload_n 1, 0), (.iconst 5, 5), (.imul, 0), (.iload_n 3, 0), (.iadd, 0), (.iload_n 2, 0), (.aload_n 0, 0), (.getfield 47, 0), (.irem, 0)] (pc' := 34) (lv' := [(0, .ref 39), (1, .int v1), (2, .int v2), (3, .int v3)]) (st' := [.int (fhrem v2 (σ.1 39 5)), .int ((v1 * (5 : Int32)) + v3), .ref 42]) (σ' := σ) (by decide +kernel) rfl rfl hg1 ?_
      refine fhW.callv hΓ mvX2_put ml_9_56 (t := 42) (ci := 2) (av := [.int ((v1 * (5 : Int32)) + v3), .int (fhrem v2 (σ.1 39 5))]) (rest := []) (r := none) (σ' := (fcP σ 42 ((v1 * (5 : Int32)) + v3) (fhrem v2 (σ.1 39 5)))) (T_X2_put (E := fhEn Γ) (d := fhD Γ - 1) hE (by omega) 42 ((v1 * (5 : Int32)) + v3) (fhrem v2 (σ.1 39 5)) rfl σ) (by omega) (by decide +kernel) rfl rfl rfl (Nat.le_of_ble_eq_true rfl) rfl ?_
      show fhW fhYF Γ 37 [(0, .ref 39), (1, .int v1), (2, .int v2), (3, .int v3)] [] (fcP σ 42 ((v1 * (5 : Int32)) + v3) (fhrem v2 (σ.1 39 5)))
      obtain ⟨hg2, h⟩ := fhif h
      refine fhW.blk fhPF fhLL hΓ [(.iload_n 2, 0), (.aload_n 0, 0), (.getfield 47, 0), (.idiv, 0), (.istore_n 2, 0), (.iinc 3 1, 1)] (pc' := 47) (lv' := [(3, .int (v3 + (1 : Int32))), (2, .int (v2 / (σ.1 39 5))), (0, .ref 39), (1, .int v1)]) (st' := []) (σ' := (fcP σ 42 ((v1 * (5 : Int32)) + v3) (fhrem v2 (σ.1 39 5)))) (by decide +kernel) rfl rfl hg2 ?_
      refine fhW.goto hΓ (off := (-43)) (tgt := 4) (by decide +kernel) ?_
      refine fhW.sub (lv' := [(0, .ref 39), (1, .int v1), (2, .int (v2 / (σ.1 39 5))), (3, .int (v3 + (1 : Int32)))]) [2, 3, 1, 0] rfl ?_
      have e9 := Option.some.inj h
      subst e9
      exact hk
set_option maxRecDepth 100000 in
set_option maxHeartbeats 4000000 in
theorem L_X9_fillViews_E {Γ : fhX} (hE : fhEok fhYF (fhEn Γ)) (hΓ : fhOk fhYF 9 cX9_fillViews 6 none Γ) (hd : 2 ≤ fhD Γ) (v1 : Int32)  (σ : fhM) (o : fhM) (h : f_X9_fillViews v1 σ = some o) (hk : (fun o => fhRet Γ none o) o) : fhW fhYF Γ 0 [(0, .ref 39), (1, .int v1)] [] σ := by
  unfold f_X9_fillViews at h
  refine fhW.blk fhPF fhLL hΓ [(.iload_n 1, 0), (.istore_n 2, 0), (.iconst 0, 0), (.istore_n 3, 0)] (pc' := 4) (lv' := [(3, .int (0 : Int32)), (2, .int v1), (0, .ref 39), (1, .int v1)]) (st' := []) (σ' := σ) (by decide +kernel) rfl rfl rfl ?_
  refine fhW.sub (lv' := [(0, .ref 39), (1, .int v1), (2, .int v1), (3, .int (0 : Int32))]) [2, 3, 1, 0] rfl ?_
  exact fhlp_ok (W := (fun x => fhW fhYF Γ 4 [(0, .ref 39), (1, .int v1), (2, .int x.1), (3, .int x.2.1)] [] x.2.2)) (B := (fun o => fhRet Γ none o)) (fun x o h hk => L_X9_fillViews_4 hE hΓ hd v1 x.1 x.2.1 x.2.2 o h hk) (v1, (0 : Int32), σ) _ h hk
set_option maxRecDepth 100000 in
theorem T_X9_fillViews {E : fhE} {d : Nat} (hE : fhEok fhYF E) (hd : 2 ≤ d) (v1 : Int32)  (σ : fhM) {o : fhM} (h : f_X9_fillViews v1 σ = some o) : fhC fhYF E d miX9_fillViews [.ref 39, .int v1] σ none o := by
  refine fhC.of (y := yX9_fillViews) (cc := cX9_fillViews) (nL := 6) (ret := none) 9 rfl (by decide +kernel) (Nat.le_of_ble_eq_true rfl) ?_
  intro Γ hΓ hR hD hEn
  subst hD; subst hEn
  exact L_X9_fillViews_E hE hΓ hd v1  σ _ h hR
set_option maxRecDepth 100000 in
set_option maxHeartbeats 4000000 in
theorem L_X7_truthBits_4 {Γ : fhX} (hE : fhEok fhYF (fhEn Γ)) (hΓ : fhOk fhYF 7 cX7_truthBits 5 (some .int) Γ) (hd : 5 ≤ fhD Γ) (v0 : Nat) (v2 : Int32) (v3 : Int32) (hv0 : fhiP v0 = true) (σ : fhM) (o : (Int32 × Int32 × fhM) ⊕ (Int32 × fhM)) (h : f_X7_truthBits_4 v0 v2 v3 σ = some o) (hk : (fhK (fun x => fhW fhYF Γ 4 [(0, .ref v0), (1, .ref 10), (2, .int x.1), (3, .int x.2.1)] [] x.2.2) (fun o => fhRet Γ (some (.int o.1)) o.2)) o) : fhW fhYF Γ 4 [(0, .ref v0), (1, .ref 10), (2, .int v2), (3, .int v3)] [] σ := by
  unfold f_X7_truthBits_4 at h
  refine fhW.blk fhPF fhLL hΓ [(.iload_n 3, 0), (.aload_n 0, 0), (.getfield 93, 0)] (pc' := 9) (lv' := [(0, .ref v0), (1, .ref 10), (2, .int v2), (3, .int v3)]) (st' := [.int (σ.1 v0 12), .int v3]) (σ' := σ) (by decide +kernel) rfl rfl (by rcases fhiP_or hv0 with rfl | rfl <;> rfl) ?_
  refine fhW.i_ge hΓ (tgt := 57) (show fhbk _ _ (.if_icmp .ge (48)) _ = true by decide +kernel) (fun hc => ?_) (fun hc => ?_)
  · rw [if_pos hc] at h
    refine fhW.blk fhPF fhLL hΓ [(.iload_n 2, 0)] (pc' := 58) (lv' := [(0, .ref v0), (1, .ref 10), (2, .int v2), (3, .int v3)]) (st' := [.int v2]) (σ' := σ) (by decide +kernel) rfl rfl rfl ?_
    have e9 := Option.some.inj h
    subst e9
    exact fhW.iret hΓ (by decide +kernel) hk
  · rw [if_neg hc] at h
    refine fhW.blk fhPF fhLL hΓ [(.aload_n 1, 0), (.aload_n 0, 0), (.getfield 12, 0), (.aload_n 0, 0), (.getfield 30, 0), (.iconst 2, 2), (.iload_n 3, 0), (.imul, 0)] (pc' := 24) (lv' := [(0, .ref v0), (1, .ref 10), (2, .int v2), (3, .int v3)]) (st' := [.int ((2 : Int32) * v3), .ref (v0 + 8), .ref (v0 + 1), .ref 10]) (σ' := σ) (by decide +kernel) rfl rfl (by rcases fhiP_or hv0 with rfl | rfl <;> rfl) ?_
    refine fhW.callv hΓ mvX2_get ml_7_163 (t := (v0 + 8)) (ci := 2) (av := [.int ((2 : Int32) * v3)]) (rest := [.ref (v0 + 1), .ref 10]) (r := (some (.int (fcG σ (v0 + 8) ((2 : Int32) * v3))))) (σ' := σ) (T_X2_get (E := fhEn Γ) (d := fhD Γ - 1) hE (by omega) (v0 + 8) ((2 : Int32) * v3) (fhiP_ind (p := fun q => fhiC (q + 8) = true) hv0 rfl rfl) σ) (by omega) (by decide +kernel) rfl (fhiC_g (fhiP_ind (p := fun q => fhiC (q + 8) = true) hv0 rfl rfl)) rfl (Nat.le_of_ble_eq_true rfl) rfl ?_
    show fhW fhYF Γ 27 [(0, .ref v0), (1, .ref 10), (2, .int v2), (3, .int v3)] [.int (fcG σ (v0 + 8) ((2 : Int32) * v3)), .ref (v0 + 1), .ref 10] σ
    refine fhW.blk fhPF fhLL hΓ [(.aload_n 0, 0), (.getfield 30, 0), (.iconst 2, 2), (.iload_n 3, 0), (.imul, 0), (.iconst 1, 1), (.iadd, 0)] (pc' := 36) (lv' := [(0, .ref v0), (1, .ref 10), (2, .int v2), (3, .int v3)]) (st' := [.int (((2 : Int32) * v3) + (1 : Int32)), .ref (v0 + 8), .int (fcG σ (v0 + 8) ((2 : Int32) * v3)), .ref (v0 + 1), .ref 10]) (σ' := σ) (by decide +kernel) rfl rfl (by rcases fhiP_or hv0 with rfl | rfl <;> rfl) ?_
    refine fhW.callv hΓ mvX2_get ml_7_163 (t := (v0 + 8)) (ci := 2) (av := [.int (((2 : Int32) * v3) + (1 : Int32))]) (rest := [.int (fcG σ (v0 + 8) ((2 : Int32) * v3)), .ref (v0 + 1), .ref 10]) (r := (some (.int (fcG σ (v0 + 8) (((2 : Int32) * v3) + (1 : Int32)))))) (σ' := σ) (T_X2_get (E := fhEn Γ) (d := fhD Γ - 1) hE (by omega) (v0 + 8) (((2 : Int32) * v3) + (1 : Int32)) (fhiP_ind (p := fun q => fhiC (q + 8) = true) hv0 rfl rfl) σ) (by omega) (by decide +kernel) rfl (fhiC_g (fhiP_ind (p := fun q => fhiC (q + 8) = true) hv0 rfl rfl)) rfl (Nat.le_of_ble_eq_true rfl) rfl ?_
    show fhW fhYF Γ 39 [(0, .ref v0), (1, .ref 10), (2, .int v2), (3, .int v3)] [.int (fcG σ (v0 + 8) (((2 : Int32) * v3) + (1 : Int32))), .int (fcG σ (v0 + 8) ((2 : Int32) * v3)), .ref (v0 + 1), .ref 10] σ
    obtain ⟨q1, hb1, h⟩ := Option.bind_eq_some_iff.mp h
    refine fhW.callv hΓ mvX10_value ml_7_166 (t := 10) (ci := 10) (av := [.ref (v0 + 1), .int (fcG σ (v0 + 8) ((2 : Int32) * v3)), .int (fcG σ (v0 + 8) (((2 : Int32) * v3) + (1 : Int32)))]) (rest := []) (r := (some (.int q1.1))) (σ' := q1.2) (T_X10_value (E := fhEn Γ) (d := fhD Γ - 1) hE (by omega) (v0 + 1) (fcG σ (v0 + 8) ((2 : Int32) * v3)) (fcG σ (v0 + 8) (((2 : Int32) * v3) + (1 : Int32))) (fhiP_ind (p := fun q => fhiK (q + 1) = true) hv0 rfl rfl) σ hb1) (by omega) (by decide +kernel) rfl rfl rfl (Nat.le_of_ble_eq_true rfl) rfl ?_
    show fhW fhYF Γ 42 [(0, .ref v0), (1, .ref 10), (2, .int v2), (3, .int v3)] [.int q1.1] q1.2
    refine fhW.blk fhPF fhLL hΓ [(.istore 4, 0), (.iload_n 2, 0), (.iload 4, 0), (.iload_n 3, 0), (.ishl, 0), (.ior, 0), (.istore_n 2, 0), (.iinc 3 1, 1)] (pc' := 54) (lv' := [(3, .int (v3 + (1 : Int32))), (2, .int (v2 ||| (q1.1 <<< (v3 &&& 31)))), (4, .int q1.1), (0, .ref v0), (1, .ref 10)]) (st' := []) (σ' := q1.2) (by decide +kernel) rfl rfl rfl ?_
    refine fhW.goto hΓ (off := (-50)) (tgt := 4) (by decide +kernel) ?_
    refine fhW.sub (lv' := [(0, .ref v0), (1, .ref 10), (2, .int (v2 ||| (q1.1 <<< (v3 &&& 31)))), (3, .int (v3 + (1 : Int32)))]) [3, 4, 1, 0] rfl ?_
    have e9 := Option.some.inj h
    subst e9
    exact hk
set_option maxRecDepth 100000 in
set_option maxHeartbeats 4000000 in
theorem L_X7_truthBits_E {Γ : fhX} (hE : fhEok fhYF (fhEn Γ)) (hΓ : fhOk fhYF 7 cX7_truthBits 5 (some .int) Γ) (hd : 5 ≤ fhD Γ) (v0 : Nat) (hv0 : fhiP v0 = true) (σ : fhM) (o : Int32 × fhM) (h : f_X7_truthBits v0 σ = some o) (hk : (fun o => fhRet Γ (some (.int o.1)) o.2) o) : fhW fhYF Γ 0 [(0, .ref v0), (1, .ref 10)] [] σ := by
  unfold f_X7_truthBits at h
  refine fhW.blk fhPF fhLL hΓ [(.iconst 0, 0), (.istore_n 2, 0), (.iconst 0, 0), (.istore_n 3, 0)] (pc' := 4) (lv' := [(3, .int (0 : Int32)), (2, .int (0 : Int32)), (0, .ref v0), (1, .ref 10)]) (st' := []) (σ' := σ) (by decide +kernel) rfl rfl rfl ?_
  refine fhW.sub (lv' := [(0, .ref v0), (1, .ref 10), (2, .int (0 : Int32)), (3, .int (0 : Int32))]) [2, 3, 1, 0] rfl ?_
  exact fhlp_ok (W := (fun x => fhW fhYF Γ 4 [(0, .ref v0), (1, .ref 10), (2, .int x.1), (3, .int x.2.1)] [] x.2.2)) (B := (fun o => fhRet Γ (some (.int o.1)) o.2)) (fun x o h hk => L_X7_truthBits_4 hE hΓ hd v0 x.1 x.2.1 hv0 x.2.2 o h hk) ((0 : Int32), (0 : Int32), σ) _ h hk
set_option maxRecDepth 100000 in
theorem T_X7_truthBits {E : fhE} {d : Nat} (hE : fhEok fhYF E) (hd : 5 ≤ d) (v0 : Nat) (hv0 : fhiP v0 = true) (σ : fhM) {o : Int32 × fhM} (h : f_X7_truthBits v0 σ = some o) : fhC fhYF E d miX7_truthBits [.ref v0, .ref 10] σ (some (.int o.1)) o.2 := by
  refine fhC.of (y := yX7_truthBits) (cc := cX7_truthBits) (nL := 5) (ret := (some .int)) 7 rfl (by decide +kernel) (Nat.le_of_ble_eq_true rfl) ?_
  intro Γ hΓ hR hD hEn
  subst hD; subst hEn
  exact L_X7_truthBits_E hE hΓ hd v0 hv0 σ _ h hR
set_option maxRecDepth 100000 in
set_option maxHeartbeats 4000000 in
theorem L_X9_build_198 {Γ : fhX} (hE : fhEok fhYF (fhEn Γ)) (hΓ : fhOk fhYF 9 cX9_build 4 none Γ) (hd : 6 ≤ fhD Γ) (v1 : Nat) (v3 : Int32) (hv1 : fhiP v1 = true) (σ : fhM) (o : (Int32 × fhM) ⊕ (fhM)) (h : f_X9_build_198 v1 v3 σ = some o) (hk : (fhK (fun x => fhW fhYF Γ 120 [(0, .ref 39), (1, .ref v1), (2, .ref 10), (3, .int x.1)] [] x.2) (fun o => fhRet Γ none o)) o) : fhW fhYF Γ 198 [(0, .ref 39), (1, .ref v1), (2, .ref 10), (3, .int v3)] [] σ := by
  unfold f_X9_build_198 at h
  refine fhW.blk fhPF fhLL hΓ [(.iinc 3 1, 1)] (pc' := 201) (lv' := [(3, .int (v3 + (1 : Int32))), (0, .ref 39), (1, .ref v1), (2, .ref 10)]) (st' := []) (σ' := σ) (by decide +kernel) rfl rfl rfl ?_
  refine fhW.goto hΓ (off := (-81)) (tgt := 120) (by decide +kernel) ?_
  refine fhW.sub (lv' := [(0, .ref 39), (1, .ref v1), (2, .ref 10), (3, .int (v3 + (1 : Int32)))]) [1, 2, 3, 0] rfl ?_
  have e9 := Option.some.inj h
  subst e9
  exact hk
set_option maxRecDepth 100000 in
set_option maxHeartbeats 4000000 in
theorem L_X9_build_120 {Γ : fhX} (hE : fhEok fhYF (fhEn Γ)) (hΓ : fhOk fhYF 9 cX9_build 4 none Γ) (hd : 6 ≤ fhD Γ) (v1 : Nat) (v3 : Int32) (hv1 : fhiP v1 = true) (σ : fhM) (o : (Int32 × fhM) ⊕ (fhM)) (h : f_X9_build_120 v1 v3 σ = some o) (hk : (fhK (fun x => fhW fhYF Γ 120 [(0, .ref 39), (1, .ref v1), (2, .ref 10), (3, .int x.1)] [] x.2) (fun o => fhRet Γ none o)) o) : fhW fhYF Γ 120 [(0, .ref 39), (1, .ref v1), (2, .ref 10), (3, .int v3)] [] σ := by
  unfold f_X9_build_120 at h
  refine fhW.blk fhPF fhLL hΓ [(.iload_n 3, 0), (.aload_n 0, 0), (.getfield 73, 0)] (pc' := 125) (lv' := [(0, .ref 39), (1, .ref v1), (2, .ref 10), (3, .int v3)]) (st' := [.int (σ.1 39 11), .int v3]) (σ' := σ) (by decide +kernel) rfl rfl rfl ?_
  refine fhW.i_ge hΓ (tgt := 204) (show fhbk _ _ (.if_icmp .ge (79)) _ = true by decide +kernel) (fun hc => ?_) (fun hc => ?_)
  · rw [if_pos hc] at h
    have e9 := Option.some.inj h
    subst e9
    exact fhW.vret hΓ (by decide +kernel) hk
  · rw [if_neg hc] at h
    refine fhW.blk fhPF fhLL hΓ [(.aload_n 0, 0), (.iload_n 3, 0)] (pc' := 130) (lv' := [(0, .ref 39), (1, .ref v1), (2, .ref 10), (3, .int v3)]) (st' := [.int v3, .ref 39]) (σ' := σ) (by decide +kernel) rfl rfl rfl ?_
    obtain ⟨q1, hb1, h⟩ := Option.bind_eq_some_iff.mp h
    refine fhW.callv hΓ mvX9_fillViews ml_9_82 (t := 39) (ci := 9) (av := [.int v3]) (rest := []) (r := none) (σ' := q1) (T_X9_fillViews (E := fhEn Γ) (d := fhD Γ - 1) hE (by omega) v3 σ hb1) (by omega) (by decide +kernel) rfl rfl rfl (Nat.le_of_ble_eq_true rfl) rfl ?_
    show fhW fhYF Γ 133 [(0, .ref 39), (1, .ref v1), (2, .ref 10), (3, .int v3)] [] q1
    refine fhW.blk fhPF fhLL hΓ [(.aload_n 2, 0), (.iload_n 3, 0), (.aload_n 0, 0), (.getfield 47, 0), (.aload_n 0, 0), (.getfield 51, 0)] (pc' := 143) (lv' := [(0, .ref 39), (1, .ref v1), (2, .ref 10), (3, .int v3)]) (st' := [.int (q1.1 39 9), .int (q1.1 39 5), .int v3, .ref 10]) (σ' := q1) (by decide +kernel) rfl rfl rfl ?_
    obtain ⟨q2, hb2, h⟩ := Option.bind_eq_some_iff.mp h
    refine fhW.callv hΓ mvX10_fillFromRow ml_9_85 (t := 10) (ci := 10) (av := [.int v3, .int (q1.1 39 5), .int (q1.1 39 9)]) (rest := []) (r := none) (σ' := q2) (T_X10_fillFromRow (E := fhEn Γ) (d := fhD Γ - 1) hE (by omega) v3 (q1.1 39 5) (q1.1 39 9) q1 hb2) (by omega) (by decide +kernel) rfl rfl rfl (Nat.le_of_ble_eq_true rfl) rfl ?_
    show fhW fhYF Γ 146 [(0, .ref 39), (1, .ref v1), (2, .ref 10), (3, .int v3)] [] q2
    refine fhW.blk fhPF fhLL hΓ [(.aload_n 1, 0), (.aload_n 2, 0)] (pc' := 148) (lv' := [(0, .ref 39), (1, .ref v1), (2, .ref 10), (3, .int v3)]) (st' := [.ref 10, .ref v1]) (σ' := q2) (by decide +kernel) rfl rfl rfl ?_
    obtain ⟨q3, hb3, h⟩ := Option.bind_eq_some_iff.mp h
    refine fhW.callv hΓ mvX7_rulesHold ml_9_91 (t := v1) (ci := 7) (av := [.ref 10]) (rest := []) (r := (some (.int (fhb q3.1)))) (σ' := q3.2) (T_X7_rulesHold (E := fhEn Γ) (d := fhD Γ - 1) hE (by omega) v1 hv1 q2 hb3) (by omega) (by decide +kernel) rfl (fhiP_g hv1) rfl (Nat.le_of_ble_eq_true rfl) rfl ?_
    show fhW fhYF Γ 151 [(0, .ref 39), (1, .ref v1), (2, .ref 10), (3, .int v3)] [.int (fhb q3.1)] q3.2
    refine fhW.b_eq hΓ (tgt := 198) (show fhbk _ _ (.ifCond .eq (47)) _ = true by decide +kernel) (fun hc => ?_) (fun hc => ?_)
    · rw [if_neg hc] at h
      refine fhW.sub (lv' := [(0, .ref 39), (1, .ref v1), (2, .ref 10), (3, .int v3)]) [0, 1, 2, 3] rfl ?_
      exact L_X9_build_198 hE hΓ hd v1 v3 hv1 q3.2 _ h hk
    · rw [if_pos hc] at h
      refine fhW.blk fhPF fhLL hΓ [(.aload_n 0, 0), (.getfield 35, 0), (.iload_n 3, 0), (.aload_n 1, 0), (.aload_n 2, 0)] (pc' := 161) (lv' := [(0, .ref 39), (1, .ref v1), (2, .ref 10), (3, .int v3)]) (st' := [.ref 10, .ref v1, .int v3, .ref 52]) (σ' := q3.2) (by decide +kernel) rfl rfl rfl ?_
      obtain ⟨q4, hb4, h⟩ := Option.bind_eq_some_iff.mp h
      refine fhW.callv hΓ mvX7_truthBits ml_9_95 (t := v1) (ci := 7) (av := [.ref 10]) (rest := [.int v3, .ref 52]) (r := (some (.int q4.1))) (σ' := q4.2) (T_X7_truthBits (E := fhEn Γ) (d := fhD Γ - 1) hE (by omega) v1 hv1 q3.2 hb4) (by omega) (by decide +kernel) rfl (fhiP_g hv1) rfl (Nat.le_of_ble_eq_true rfl) rfl ?_
      show fhW fhYF Γ 164 [(0, .ref 39), (1, .ref v1), (2, .ref 10), (3, .int v3)] [.int q4.1, .int v3, .ref 52] q4.2
      refine fhW.callv hΓ mvX2_put ml_9_56 (t := 52) (ci := 2) (av := [.int v3, .int q4.1]) (rest := []) (r := none) (σ' := (fcP q4.2 52 v3 q4.1)) (T_X2_put (E := fhEn Γ) (d := fhD Γ - 1) hE (by omega) 52 v3 q4.1 rfl q4.2) (by omega) (by decide +kernel) rfl rfl rfl (Nat.le_of_ble_eq_true rfl) rfl ?_
      show fhW fhYF Γ 167 [(0, .ref 39), (1, .ref v1), (2, .ref 10), (3, .int v3)] [] (fcP q4.2 52 v3 q4.1)
      refine fhW.blk fhPF fhLL hΓ [(.aload_n 0, 0), (.getfield 26, 0), (.iload_n 3, 0), (.iconst 1, 1)] (pc' := 173) (lv' := [(0, .ref 39), (1, .ref v1), (2, .ref 10), (3, .int v3)]) (st' := [.int (1 : Int32), .int v3, .ref 46]) (σ' := (fcP q4.2 52 v3 q4.1)) (by decide +kernel) rfl rfl rfl ?_
      refine fhW.callv hΓ mvX2_put ml_9_56 (t := 46) (ci := 2) (av := [.int v3, .int (1 : Int32)]) (rest := []) (r := none) (σ' := (fcP (fcP q4.2 52 v3 q4.1) 46 v3 (1 : Int32))) (T_X2_put (E := fhEn Γ) (d := fhD Γ - 1) hE (by omega) 46 v3 (1 : Int32) rfl (fcP q4.2 52 v3 q4.1)) (by omega) (by decide +kernel) rfl rfl rfl (Nat.le_of_ble_eq_true rfl) rfl ?_
      show fhW fhYF Γ 176 [(0, .ref 39), (1, .ref v1), (2, .ref 10), (3, .int v3)] [] (fcP (fcP q4.2 52 v3 q4.1) 46 v3 (1 : Int32))
      refine fhW.blk fhPF fhLL hΓ [(.aload_n 0, 0), (.getfield 38, 0), (.aload_n 0, 0), (.getfield 79, 0), (.iload_n 3, 0)] (pc' := 185) (lv' := [(0, .ref 39), (1, .ref v1), (2, .ref 10), (3, .int v3)]) (st' := [.int v3, .int (q4.2.1 39 12), .ref 54]) (σ' := (fcP (fcP q4.2 52 v3 q4.1) 46 v3 (1 : Int32))) (by decide +kernel) rfl rfl rfl ?_
      refine fhW.callv hΓ mvX2_put ml_9_56 (t := 54) (ci := 2) (av := [.int (q4.2.1 39 12), .int v3]) (rest := []) (r := none) (σ' := (fcP (fcP (fcP q4.2 52 v3 q4.1) 46 v3 (1 : Int32)) 54 (q4.2.1 39 12) v3)) (T_X2_put (E := fhEn Γ) (d := fhD Γ - 1) hE (by omega) 54 (q4.2.1 39 12) v3 rfl (fcP (fcP q4.2 52 v3 q4.1) 46 v3 (1 : Int32))) (by omega) (by decide +kernel) rfl rfl rfl (Nat.le_of_ble_eq_true rfl) rfl ?_
      show fhW fhYF Γ 188 [(0, .ref 39), (1, .ref v1), (2, .ref 10), (3, .int v3)] [] (fcP (fcP (fcP q4.2 52 v3 q4.1) 46 v3 (1 : Int32)) 54 (q4.2.1 39 12) v3)
      refine fhW.blk fhPF fhLL hΓ [(.aload_n 0, 0), (.dup, 0), (.getfield 79, 0), (.iconst 1, 1), (.iadd, 0), (.putfield 79, 0)] (pc' := 198) (lv' := [(0, .ref 39), (1, .ref v1), (2, .ref 10), (3, .int v3)]) (st' := []) (σ' := (fhI (fcP (fcP (fcP q4.2 52 v3 q4.1) 46 v3 (1 : Int32)) 54 (q4.2.1 39 12) v3) 39 12 ((q4.2.1 39 12) + (1 : Int32)))) (by decide +kernel) rfl rfl rfl ?_
      refine fhW.sub (lv' := [(0, .ref 39), (1, .ref v1), (2, .ref 10), (3, .int v3)]) [0, 1, 2, 3] rfl ?_
      exact L_X9_build_198 hE hΓ hd v1 v3 hv1 (fhI (fcP (fcP (fcP q4.2 52 v3 q4.1) 46 v3 (1 : Int32)) 54 (q4.2.1 39 12) v3) 39 12 ((q4.2.1 39 12) + (1 : Int32))) _ h hk
set_option maxRecDepth 100000 in
set_option maxHeartbeats 4000000 in
theorem L_X9_build_35 {Γ : fhX} (hE : fhEok fhYF (fhEn Γ)) (hΓ : fhOk fhYF 9 cX9_build 4 none Γ) (hd : 6 ≤ fhD Γ) (v1 : Nat) (v3 : Int32) (hv1 : fhiP v1 = true) (σ : fhM) (o : (Int32 × fhM) ⊕ (fhM)) (h : f_X9_build_35 v1 v3 σ = some o) (hk : (fhK (fun x => fhW fhYF Γ 35 [(0, .ref 39), (1, .ref v1), (2, .ref 10), (3, .int x.1)] [] x.2) (fun o => fhRet Γ none o)) o) : fhW fhYF Γ 35 [(0, .ref 39), (1, .ref v1), (2, .ref 10), (3, .int v3)] [] σ := by
  unfold f_X9_build_35 at h
  refine fhW.blk fhPF fhLL hΓ [(.iload_n 3, 0), (.aload_n 0, 0), (.getfield 51, 0)] (pc' := 40) (lv' := [(0, .ref 39), (1, .ref v1), (2, .ref 10), (3, .int v3)]) (st' := [.int (σ.1 39 9), .int v3]) (σ' := σ) (by decide +kernel) rfl rfl rfl ?_
  refine fhW.i_ge hΓ (tgt := 85) (show fhbk _ _ (.if_icmp .ge (45)) _ = true by decide +kernel) (fun hc => ?_) (fun hc => ?_)
  · rw [if_pos hc] at h
    refine fhW.blk fhPF fhLL hΓ [(.aload_n 0, 0), (.aload_n 0, 0), (.getfield 14, 0), (.aload_n 0, 0), (.getfield 51, 0)] (pc' := 94) (lv' := [(0, .ref 39), (1, .ref v1), (2, .ref 10), (3, .int v3)]) (st' := [.int (σ.1 39 9), .ref 40, .ref 39]) (σ' := σ) (by decide +kernel) rfl rfl rfl ?_
    refine fhW.callv hΓ mvX2_get ml_9_60 (t := 40) (ci := 2) (av := [.int (σ.1 39 9)]) (rest := [.ref 39]) (r := (some (.int (fcG σ 40 (σ.1 39 9))))) (σ' := σ) (T_X2_get (E := fhEn Γ) (d := fhD Γ - 1) hE (by omega) 40 (σ.1 39 9) rfl σ) (by omega) (by decide +kernel) rfl rfl rfl (Nat.le_of_ble_eq_true rfl) rfl ?_
    show fhW fhYF Γ 97 [(0, .ref 39), (1, .ref v1), (2, .ref 10), (3, .int v3)] [.int (fcG σ 40 (σ.1 39 9)), .ref 39] σ
    refine fhW.blk fhPF fhLL hΓ [(.sipush 1024, 1024)] (pc' := 100) (lv' := [(0, .ref 39), (1, .ref v1), (2, .ref 10), (3, .int v3)]) (st' := [.int (1024 : Int32), .int (fcG σ 40 (σ.1 39 9)), .ref 39]) (σ' := σ) (by decide +kernel) rfl rfl rfl ?_
    refine fhW.calls hΓ msJ9_min_7cf53 ml_9_67 (av := [.int (fcG σ 40 (σ.1 39 9)), .int (1024 : Int32)]) (rest := [.ref 39]) (r := (some (.int (f_J9_min_7cf53 (fcG σ 40 (σ.1 39 9)) (1024 : Int32) σ)))) (σ' := σ) (T_J9_min_7cf53 (E := fhEn Γ) (d := fhD Γ - 1) hE (by omega) (fcG σ 40 (σ.1 39 9)) (1024 : Int32) σ) (by omega) (by decide +kernel) rfl (Nat.le_of_ble_eq_true rfl) rfl ?_
    show fhW fhYF Γ 103 [(0, .ref 39), (1, .ref v1), (2, .ref 10), (3, .int v3)] [.int (f_J9_min_7cf53 (fcG σ 40 (σ.1 39 9)) (1024 : Int32) σ), .ref 39] σ
    refine fhW.blk fhPF fhLL hΓ [(.putfield 73, 0), (.aload_n 0, 0), (.getfield 26, 0)] (pc' := 110) (lv' := [(0, .ref 39), (1, .ref v1), (2, .ref 10), (3, .int v3)]) (st' := [.ref 46]) (σ' := (fhI σ 39 11 (f_J9_min_7cf53 (fcG σ 40 (σ.1 39 9)) (1024 : Int32) σ))) (by decide +kernel) rfl rfl rfl ?_
    refine fhW.callv hΓ mvX2_wipe ml_9_76 (t := 46) (ci := 2) (av := []) (rest := []) (r := none) (σ' := (fcW (fhI σ 39 11 (f_J9_min_7cf53 (fcG σ 40 (σ.1 39 9)) (1024 : Int32) σ)) 46)) (T_X2_wipe (E := fhEn Γ) (d := fhD Γ - 1) hE (by omega) 46 rfl (fhI σ 39 11 (f_J9_min_7cf53 (fcG σ 40 (σ.1 39 9)) (1024 : Int32) σ))) (by omega) (by decide +kernel) rfl rfl rfl (Nat.le_of_ble_eq_true rfl) rfl ?_
    show fhW fhYF Γ 113 [(0, .ref 39), (1, .ref v1), (2, .ref 10), (3, .int v3)] [] (fcW (fhI σ 39 11 (f_J9_min_7cf53 (fcG σ 40 (σ.1 39 9)) (1024 : Int32) σ)) 46)
    refine fhW.blk fhPF fhLL hΓ [(.aload_n 0, 0), (.iconst 0, 0), (.putfield 79, 0), (.iconst 0, 0), (.istore_n 3, 0)] (pc' := 120) (lv' := [(3, .int (0 : Int32)), (0, .ref 39), (1, .ref v1), (2, .ref 10)]) (st' := []) (σ' := (fhI (fcW (fhI σ 39 11 (f_J9_min_7cf53 (fcG σ 40 (σ.1 39 9)) (1024 : Int32) σ)) 46) 39 12 (0 : Int32))) (by decide +kernel) rfl rfl rfl ?_
    refine fhW.sub (lv' := [(0, .ref 39), (1, .ref v1), (2, .ref 10), (3, .int (0 : Int32))]) [1, 2, 3, 0] rfl ?_
    obtain ⟨z1, hz, e1⟩ := Option.map_eq_some_iff.mp h
    clear h
    subst e1
    have h := hz
    have hk : (fun o => fhRet Γ none o) z1 := hk
    exact fhlp_ok (W := (fun x => fhW fhYF Γ 120 [(0, .ref 39), (1, .ref v1), (2, .ref 10), (3, .int x.1)] [] x.2)) (B := (fun o => fhRet Γ none o)) (fun x o h hk => L_X9_build_120 hE hΓ hd v1 x.1 hv1 x.2 o h hk) ((0 : Int32), (fhI (fcW (fhI σ 39 11 (f_J9_min_7cf53 (fcG σ 40 (σ.1 39 9)) (1024 : Int32) σ)) 46) 39 12 (0 : Int32))) _ h hk
  · rw [if_neg hc] at h
    refine fhW.blk fhPF fhLL hΓ [(.aload_n 0, 0), (.getfield 14, 0), (.iload_n 3, 0), (.iconst 1, 1), (.iadd, 0), (.aload_n 0, 0), (.getfield 14, 0), (.iload_n 3, 0)] (pc' := 55) (lv' := [(0, .ref 39), (1, .ref v1), (2, .ref 10), (3, .int v3)]) (st' := [.int v3, .ref 40, .int (v3 + (1 : Int32)), .ref 40]) (σ' := σ) (by decide +kernel) rfl rfl rfl ?_
    refine fhW.callv hΓ mvX2_get ml_9_60 (t := 40) (ci := 2) (av := [.int v3]) (rest := [.int (v3 + (1 : Int32)), .ref 40]) (r := (some (.int (fcG σ 40 v3)))) (σ' := σ) (T_X2_get (E := fhEn Γ) (d := fhD Γ - 1) hE (by omega) 40 v3 rfl σ) (by omega) (by decide +kernel) rfl rfl rfl (Nat.le_of_ble_eq_true rfl) rfl ?_
    show fhW fhYF Γ 58 [(0, .ref 39), (1, .ref v1), (2, .ref 10), (3, .int v3)] [.int (fcG σ 40 v3), .int (v3 + (1 : Int32)), .ref 40] σ
    refine fhW.blk fhPF fhLL hΓ [(.aload_n 0, 0), (.getfield 47, 0), (.imul, 0)] (pc' := 63) (lv' := [(0, .ref 39), (1, .ref v1), (2, .ref 10), (3, .int v3)]) (st' := [.int ((fcG σ 40 v3) * (σ.1 39 5)), .int (v3 + (1 : Int32)), .ref 40]) (σ' := σ) (by decide +kernel) rfl rfl rfl ?_
    refine fhW.callv hΓ mvX2_put ml_9_56 (t := 40) (ci := 2) (av := [.int (v3 + (1 : Int32)), .int ((fcG σ 40 v3) * (σ.1 39 5))]) (rest := []) (r := none) (σ' := (fcP σ 40 (v3 + (1 : Int32)) ((fcG σ 40 v3) * (σ.1 39 5)))) (T_X2_put (E := fhEn Γ) (d := fhD Γ - 1) hE (by omega) 40 (v3 + (1 : Int32)) ((fcG σ 40 v3) * (σ.1 39 5)) rfl σ) (by omega) (by decide +kernel) rfl rfl rfl (Nat.le_of_ble_eq_true rfl) rfl ?_
    show fhW fhYF Γ 66 [(0, .ref 39), (1, .ref v1), (2, .ref 10), (3, .int v3)] [] (fcP σ 40 (v3 + (1 : Int32)) ((fcG σ 40 v3) * (σ.1 39 5)))
    refine fhW.blk fhPF fhLL hΓ [(.aload_n 0, 0), (.getfield 32, 0), (.iload_n 3, 0), (.aload_n 1, 0), (.iload_n 3, 0)] (pc' := 73) (lv' := [(0, .ref 39), (1, .ref v1), (2, .ref 10), (3, .int v3)]) (st' := [.int v3, .ref v1, .int v3, .ref 50]) (σ' := (fcP σ 40 (v3 + (1 : Int32)) ((fcG σ 40 v3) * (σ.1 39 5)))) (by decide +kernel) rfl rfl rfl ?_
    refine fhW.callv hΓ mvX7_seenBy ml_9_64 (t := v1) (ci := 7) (av := [.int v3]) (rest := [.int v3, .ref 50]) (r := (some (.int (f_X7_seenBy v1 v3 (fcP σ 40 (v3 + (1 : Int32)) ((fcG σ 40 v3) * (σ.1 39 5))))))) (σ' := (fcP σ 40 (v3 + (1 : Int32)) ((fcG σ 40 v3) * (σ.1 39 5)))) (T_X7_seenBy (E := fhEn Γ) (d := fhD Γ - 1) hE (by omega) v1 v3 hv1 (fcP σ 40 (v3 + (1 : Int32)) ((fcG σ 40 v3) * (σ.1 39 5)))) (by omega) (by decide +kernel) rfl (fhiP_g hv1) rfl (Nat.le_of_ble_eq_true rfl) rfl ?_
    show fhW fhYF Γ 76 [(0, .ref 39), (1, .ref v1), (2, .ref 10), (3, .int v3)] [.int (f_X7_seenBy v1 v3 (fcP σ 40 (v3 + (1 : Int32)) ((fcG σ 40 v3) * (σ.1 39 5)))), .int v3, .ref 50] (fcP σ 40 (v3 + (1 : Int32)) ((fcG σ 40 v3) * (σ.1 39 5)))
    refine fhW.callv hΓ mvX2_put ml_9_56 (t := 50) (ci := 2) (av := [.int v3, .int (f_X7_seenBy v1 v3 (fcP σ 40 (v3 + (1 : Int32)) ((fcG σ 40 v3) * (σ.1 39 5))))]) (rest := []) (r := none) (σ' := (fcP (fcP σ 40 (v3 + (1 : Int32)) ((fcG σ 40 v3) * (σ.1 39 5))) 50 v3 (f_X7_seenBy v1 v3 (fcP σ 40 (v3 + (1 : Int32)) ((fcG σ 40 v3) * (σ.1 39 5)))))) (T_X2_put (E := fhEn Γ) (d := fhD Γ - 1) hE (by omega) 50 v3 (f_X7_seenBy v1 v3 (fcP σ 40 (v3 + (1 : Int32)) ((fcG σ 40 v3) * (σ.1 39 5)))) rfl (fcP σ 40 (v3 + (1 : Int32)) ((fcG σ 40 v3) * (σ.1 39 5)))) (by omega) (by decide +kernel) rfl rfl rfl (Nat.le_of_ble_eq_true rfl) rfl ?_
    show fhW fhYF Γ 79 [(0, .ref 39), (1, .ref v1), (2, .ref 10), (3, .int v3)] [] (fcP (fcP σ 40 (v3 + (1 : Int32)) ((fcG σ 40 v3) * (σ.1 39 5))) 50 v3 (f_X7_seenBy v1 v3 (fcP σ 40 (v3 + (1 : Int32)) ((fcG σ 40 v3) * (σ.1 39 5)))))
    refine fhW.blk fhPF fhLL hΓ [(.iinc 3 1, 1)] (pc' := 82) (lv' := [(3, .int (v3 + (1 : Int32))), (0, .ref 39), (1, .ref v1), (2, .ref 10)]) (st' := []) (σ' := (fcP (fcP σ 40 (v3 + (1 : Int32)) ((fcG σ 40 v3) * (σ.1 39 5))) 50 v3 (f_X7_seenBy v1 v3 (fcP σ 40 (v3 + (1 : Int32)) ((fcG σ 40 v3) * (σ.1 39 5)))))) (by decide +kernel) rfl rfl rfl ?_
    refine fhW.goto hΓ (off := (-47)) (tgt := 35) (by decide +kernel) ?_
    refine fhW.sub (lv' := [(0, .ref 39), (1, .ref v1), (2, .ref 10), (3, .int (v3 + (1 : Int32)))]) [1, 2, 3, 0] rfl ?_
    have e9 := Option.some.inj h
    subst e9
    exact hk
set_option maxRecDepth 100000 in
set_option maxHeartbeats 4000000 in
theorem L_X9_build_E {Γ : fhX} (hE : fhEok fhYF (fhEn Γ)) (hΓ : fhOk fhYF 9 cX9_build 4 none Γ) (hd : 6 ≤ fhD Γ) (v1 : Nat) (hv1 : fhiP v1 = true) (σ : fhM) (o : fhM) (h : f_X9_build v1 σ = some o) (hk : (fun o => fhRet Γ none o) o) : fhW fhYF Γ 0 [(0, .ref 39), (1, .ref v1), (2, .ref 10)] [] σ := by
  unfold f_X9_build at h
  refine fhW.blk fhPF fhLL hΓ [(.aload_n 0, 0), (.aload_n 1, 0), (.getfield 41, 0), (.putfield 47, 0), (.aload_n 0, 0), (.aload_n 1, 0), (.getfield 48, 0), (.putfield 51, 0), (.aload_n 0, 0), (.aload_n 1, 0), (.getfield 52, 0), (.putfield 55, 0), (.aload_n 0, 0), (.getfield 14, 0), (.iconst 0, 0), (.iconst 1, 1)] (pc' := 30) (lv' := [(0, .ref 39), (1, .ref v1), (2, .ref 10)]) (st' := [.int (1 : Int32), .int (0 : Int32), .ref 40]) (σ' := (fhI (fhI (fhI σ 39 5 (σ.1 v1 9)) 39 9 ((fhI σ 39 5 (σ.1 v1 9)).1 v1 10)) 39 10 ((fhI (fhI σ 39 5 (σ.1 v1 9)) 39 9 ((fhI σ 39 5 (σ.1 v1 9)).1 v1 10)).1 v1 12))) (by decide +kernel) rfl rfl (by rcases fhiP_or hv1 with rfl | rfl <;> rfl) ?_
  refine fhW.callv hΓ mvX2_put ml_9_56 (t := 40) (ci := 2) (av := [.int (0 : Int32), .int (1 : Int32)]) (rest := []) (r := none) (σ' := (fcP (fhI (fhI (fhI σ 39 5 (σ.1 v1 9)) 39 9 ((fhI σ 39 5 (σ.1 v1 9)).1 v1 10)) 39 10 ((fhI (fhI σ 39 5 (σ.1 v1 9)) 39 9 ((fhI σ 39 5 (σ.1 v1 9)).1 v1 10)).1 v1 12)) 40 (0 : Int32) (1 : Int32))) (T_X2_put (E := fhEn Γ) (d := fhD Γ - 1) hE (by omega) 40 (0 : Int32) (1 : Int32) rfl (fhI (fhI (fhI σ 39 5 (σ.1 v1 9)) 39 9 ((fhI σ 39 5 (σ.1 v1 9)).1 v1 10)) 39 10 ((fhI (fhI σ 39 5 (σ.1 v1 9)) 39 9 ((fhI σ 39 5 (σ.1 v1 9)).1 v1 10)).1 v1 12))) (by omega) (by decide +kernel) rfl rfl rfl (Nat.le_of_ble_eq_true rfl) rfl ?_
  show fhW fhYF Γ 33 [(0, .ref 39), (1, .ref v1), (2, .ref 10)] [] (fcP (fhI (fhI (fhI σ 39 5 (σ.1 v1 9)) 39 9 ((fhI σ 39 5 (σ.1 v1 9)).1 v1 10)) 39 10 ((fhI (fhI σ 39 5 (σ.1 v1 9)) 39 9 ((fhI σ 39 5 (σ.1 v1 9)).1 v1 10)).1 v1 12)) 40 (0 : Int32) (1 : Int32))
  refine fhW.blk fhPF fhLL hΓ [(.iconst 0, 0), (.istore_n 3, 0)] (pc' := 35) (lv' := [(3, .int (0 : Int32)), (0, .ref 39), (1, .ref v1), (2, .ref 10)]) (st' := []) (σ' := (fcP (fhI (fhI (fhI σ 39 5 (σ.1 v1 9)) 39 9 ((fhI σ 39 5 (σ.1 v1 9)).1 v1 10)) 39 10 ((fhI (fhI σ 39 5 (σ.1 v1 9)) 39 9 ((fhI σ 39 5 (σ.1 v1 9)).1 v1 10)).1 v1 12)) 40 (0 : Int32) (1 : Int32))) (by decide +kernel) rfl rfl rfl ?_
  refine fhW.sub (lv' := [(0, .ref 39), (1, .ref v1), (2, .ref 10), (3, .int (0 : Int32))]) [1, 2, 3, 0] rfl ?_
  exact fhlp_ok (W := (fun x => fhW fhYF Γ 35 [(0, .ref 39), (1, .ref v1), (2, .ref 10), (3, .int x.1)] [] x.2)) (B := (fun o => fhRet Γ none o)) (fun x o h hk => L_X9_build_35 hE hΓ hd v1 x.1 hv1 x.2 o h hk) ((0 : Int32), (fcP (fhI (fhI (fhI σ 39 5 (σ.1 v1 9)) 39 9 ((fhI σ 39 5 (σ.1 v1 9)).1 v1 10)) 39 10 ((fhI (fhI σ 39 5 (σ.1 v1 9)) 39 9 ((fhI σ 39 5 (σ.1 v1 9)).1 v1 10)).1 v1 12)) 40 (0 : Int32) (1 : Int32))) _ h hk
set_option maxRecDepth 100000 in
theorem T_X9_build {E : fhE} {d : Nat} (hE : fhEok fhYF E) (hd : 6 ≤ d) (v1 : Nat) (hv1 : fhiP v1 = true) (σ : fhM) {o : fhM} (h : f_X9_build v1 σ = some o) : fhC fhYF E d miX9_build [.ref 39, .ref v1, .ref 10] σ none o := by
  refine fhC.of (y := yX9_build) (cc := cX9_build) (nL := 4) (ret := none) 9 rfl (by decide +kernel) (Nat.le_of_ble_eq_true rfl) ?_
  intro Γ hΓ hR hD hEn
  subst hD; subst hEn
  exact L_X9_build_E hE hΓ hd v1 hv1 σ _ h hR
set_option maxRecDepth 100000 in
set_option maxHeartbeats 4000000 in
theorem L_X9_viewOf_E {Γ : fhX} (hE : fhEok fhYF (fhEn Γ)) (hΓ : fhOk fhYF 9 cX9_viewOf 3 (some .int) Γ) (hd : 1 ≤ fhD Γ) (v1 : Int32) (v2 : Int32)  (σ : fhM) (o : Int32) (h : f_X9_viewOf v1 v2 σ = o) (hk : (fun o => fhRet Γ (some (.int o)) σ) o) : fhW fhYF Γ 0 [(0, .ref 39), (1, .int v1), (2, .int v2)] [] σ := by
  unfold f_X9_viewOf at h
  refine fhW.blk fhPF fhLL hΓ [(.aload_n 0, 0), (.getfield 23, 0), (.iload_n 1, 0), (.iconst 5, 5), (.imul, 0), (.iload_n 2, 0), (.iadd, 0)] (pc' := 9) (lv' := [(0, .ref 39), (1, .int v1), (2, .int v2)]) (st' := [.int ((v1 * (5 : Int32)) + v2), .ref 44]) (σ' := σ) (by decide +kernel) rfl rfl rfl ?_
  refine fhW.callv hΓ mvX2_get ml_9_60 (t := 44) (ci := 2) (av := [.int ((v1 * (5 : Int32)) + v2)]) (rest := []) (r := (some (.int (fcG σ 44 ((v1 * (5 : Int32)) + v2))))) (σ' := σ) (T_X2_get (E := fhEn Γ) (d := fhD Γ - 1) hE (by omega) 44 ((v1 * (5 : Int32)) + v2) rfl σ) (by omega) (by decide +kernel) rfl rfl rfl (Nat.le_of_ble_eq_true rfl) rfl ?_
  show fhW fhYF Γ 12 [(0, .ref 39), (1, .int v1), (2, .int v2)] [.int (fcG σ 44 ((v1 * (5 : Int32)) + v2))] σ
  subst h
  exact fhW.iret hΓ (by decide +kernel) hk
set_option maxRecDepth 100000 in
theorem T_X9_viewOf {E : fhE} {d : Nat} (hE : fhEok fhYF E) (hd : 1 ≤ d) (v1 : Int32) (v2 : Int32)  (σ : fhM) : fhC fhYF E d miX9_viewOf [.ref 39, .int v1, .int v2] σ (some (.int (f_X9_viewOf v1 v2 σ))) σ := by
  refine fhC.of (y := yX9_viewOf) (cc := cX9_viewOf) (nL := 3) (ret := (some .int)) 9 rfl (by decide +kernel) (Nat.le_of_ble_eq_true rfl) ?_
  intro Γ hΓ hR hD hEn
  subst hD; subst hEn
  exact L_X9_viewOf_E hE hΓ hd v1 v2  σ _ rfl hR
set_option maxRecDepth 100000 in
set_option maxHeartbeats 4000000 in
theorem L_X9_findKnowers_168 {Γ : fhX} (hE : fhEok fhYF (fhEn Γ)) (hΓ : fhOk fhYF 9 cX9_findKnowers 8 none Γ) (hd : 2 ≤ fhD Γ) (v1 : Nat) (v2 : Int32) (v3 : Int32) (v4 : Nat) (v5 : Int32) (v6 : Int32) (hv1 : fhiC v1 = true) (hv4 : fhiC v4 = true) (σ : fhM) (o : (Int32 × fhM) ⊕ ((Int32 × fhM) ⊕ (fhM))) (h : f_X9_findKnowers_168 v1 v2 v3 v4 v5 v6 σ = some o) (hk : (fhK (fun x => fhW fhYF Γ 168 [(0, .ref 39), (1, .ref v1), (2, .int v2), (3, .int v3), (4, .ref v4), (5, .int v5), (6, .int x.1)] [] x.2) (fhK (fun x => fhW fhYF Γ 30 [(0, .ref 39), (1, .ref v1), (2, .int v2), (3, .int v3), (4, .ref v4), (5, .int x.1)] [] x.2) (fun o => fhRet Γ none o))) o) : fhW fhYF Γ 168 [(0, .ref 39), (1, .ref v1), (2, .int v2), (3, .int v3), (4, .ref v4), (5, .int v5), (6, .int v6)] [] σ := by
  unfold f_X9_findKnowers_168 at h
  refine fhW.blk fhPF fhLL hΓ [(.iload 6, 0), (.iload_n 3, 0)] (pc' := 171) (lv' := [(0, .ref 39), (1, .ref v1), (2, .int v2), (3, .int v3), (4, .ref v4), (5, .int v5), (6, .int v6)]) (st' := [.int v3, .int v6]) (σ' := σ) (by decide +kernel) rfl rfl rfl ?_
  refine fhW.i_ge hΓ (tgt := 200) (show fhbk _ _ (.if_icmp .ge (29)) _ = true by decide +kernel) (fun hc => ?_) (fun hc => ?_)
  · rw [if_pos hc] at h
    refine fhW.blk fhPF fhLL hΓ [(.iinc 5 1, 1)] (pc' := 203) (lv' := [(5, .int (v5 + (1 : Int32))), (0, .ref 39), (1, .ref v1), (2, .int v2), (3, .int v3), (4, .ref v4), (6, .int v6)]) (st' := []) (σ' := σ) (by decide +kernel) rfl rfl rfl ?_
    refine fhW.goto hΓ (off := (-173)) (tgt := 30) (by decide +kernel) ?_
    refine fhW.sub (lv' := [(0, .ref 39), (1, .ref v1), (2, .int v2), (3, .int v3), (4, .ref v4), (5, .int (v5 + (1 : Int32)))]) [1, 2, 3, 4, 5, 0] rfl ?_
    have e9 := Option.some.inj h
    subst e9
    exact hk
  · rw [if_neg hc] at h
    refine fhW.blk fhPF fhLL hΓ [(.aload_n 0, 0), (.getfield 29, 0), (.aload_n 0, 0), (.aload_n 1, 0), (.iload 6, 0)] (pc' := 182) (lv' := [(0, .ref 39), (1, .ref v1), (2, .int v2), (3, .int v3), (4, .ref v4), (5, .int v5), (6, .int v6)]) (st' := [.int v6, .ref v1, .ref 39, .ref 48]) (σ' := σ) (by decide +kernel) rfl rfl rfl ?_
    refine fhW.callv hΓ mvX2_get ml_9_60 (t := v1) (ci := 2) (av := [.int v6]) (rest := [.ref 39, .ref 48]) (r := (some (.int (fcG σ v1 v6)))) (σ' := σ) (T_X2_get (E := fhEn Γ) (d := fhD Γ - 1) hE (by omega) v1 v6 hv1 σ) (by omega) (by decide +kernel) rfl (fhiC_g hv1) rfl (Nat.le_of_ble_eq_true rfl) rfl ?_
    show fhW fhYF Γ 185 [(0, .ref 39), (1, .ref v1), (2, .int v2), (3, .int v3), (4, .ref v4), (5, .int v5), (6, .int v6)] [.int (fcG σ v1 v6), .ref 39, .ref 48] σ
    refine fhW.blk fhPF fhLL hΓ [(.iload 5, 0)] (pc' := 187) (lv' := [(0, .ref 39), (1, .ref v1), (2, .int v2), (3, .int v3), (4, .ref v4), (5, .int v5), (6, .int v6)]) (st' := [.int v5, .int (fcG σ v1 v6), .ref 39, .ref 48]) (σ' := σ) (by decide +kernel) rfl rfl rfl ?_
    refine fhW.callv hΓ mvX9_viewOf ml_9_106 (t := 39) (ci := 9) (av := [.int (fcG σ v1 v6), .int v5]) (rest := [.ref 48]) (r := (some (.int (f_X9_viewOf (fcG σ v1 v6) v5 σ)))) (σ' := σ) (T_X9_viewOf (E := fhEn Γ) (d := fhD Γ - 1) hE (by omega) (fcG σ v1 v6) v5 σ) (by omega) (by decide +kernel) rfl rfl rfl (Nat.le_of_ble_eq_true rfl) rfl ?_
    show fhW fhYF Γ 190 [(0, .ref 39), (1, .ref v1), (2, .int v2), (3, .int v3), (4, .ref v4), (5, .int v5), (6, .int v6)] [.int (f_X9_viewOf (fcG σ v1 v6) v5 σ), .ref 48] σ
    refine fhW.blk fhPF fhLL hΓ [(.iconst 0, 0)] (pc' := 191) (lv' := [(0, .ref 39), (1, .ref v1), (2, .int v2), (3, .int v3), (4, .ref v4), (5, .int v5), (6, .int v6)]) (st' := [.int (0 : Int32), .int (f_X9_viewOf (fcG σ v1 v6) v5 σ), .ref 48]) (σ' := σ) (by decide +kernel) rfl rfl rfl ?_
    refine fhW.callv hΓ mvX2_put ml_9_56 (t := 48) (ci := 2) (av := [.int (f_X9_viewOf (fcG σ v1 v6) v5 σ), .int (0 : Int32)]) (rest := []) (r := none) (σ' := (fcP σ 48 (f_X9_viewOf (fcG σ v1 v6) v5 σ) (0 : Int32))) (T_X2_put (E := fhEn Γ) (d := fhD Γ - 1) hE (by omega) 48 (f_X9_viewOf (fcG σ v1 v6) v5 σ) (0 : Int32) rfl σ) (by omega) (by decide +kernel) rfl rfl rfl (Nat.le_of_ble_eq_true rfl) rfl ?_
    show fhW fhYF Γ 194 [(0, .ref 39), (1, .ref v1), (2, .int v2), (3, .int v3), (4, .ref v4), (5, .int v5), (6, .int v6)] [] (fcP σ 48 (f_X9_viewOf (fcG σ v1 v6) v5 σ) (0 : Int32))
    refine fhW.blk fhPF fhLL hΓ [(.iinc 6 1, 1)] (pc' := 197) (lv' := [(6, .int (v6 + (1 : Int32))), (0, .ref 39), (1, .ref v1), (2, .int v2), (3, .int v3), (4, .ref v4), (5, .int v5)]) (st' := []) (σ' := (fcP σ 48 (f_X9_viewOf (fcG σ v1 v6) v5 σ) (0 : Int32))) (by decide +kernel) rfl rfl rfl ?_
    refine fhW.goto hΓ (off := (-29)) (tgt := 168) (by decide +kernel) ?_
    refine fhW.sub (lv' := [(0, .ref 39), (1, .ref v1), (2, .int v2), (3, .int v3), (4, .ref v4), (5, .int v5), (6, .int (v6 + (1 : Int32)))]) [1, 2, 3, 4, 5, 6, 0] rfl ?_
    have e9 := Option.some.inj h
    subst e9
    exact hk
set_option maxRecDepth 100000 in
set_option maxHeartbeats 4000000 in
theorem L_X9_findKnowers_159 {Γ : fhX} (hE : fhEok fhYF (fhEn Γ)) (hΓ : fhOk fhYF 9 cX9_findKnowers 8 none Γ) (hd : 2 ≤ fhD Γ) (v1 : Nat) (v2 : Int32) (v3 : Int32) (v4 : Nat) (v5 : Int32) (v6 : Int32) (hv1 : fhiC v1 = true) (hv4 : fhiC v4 = true) (σ : fhM) (o : (Int32 × fhM) ⊕ ((Int32 × fhM) ⊕ (fhM))) (h : f_X9_findKnowers_159 v1 v2 v3 v4 v5 v6 σ = some o) (hk : (fhK (fun x => fhW fhYF Γ 104 [(0, .ref 39), (1, .ref v1), (2, .int v2), (3, .int v3), (4, .ref v4), (5, .int v5), (6, .int x.1)] [] x.2) (fhK (fun x => fhW fhYF Γ 30 [(0, .ref 39), (1, .ref v1), (2, .int v2), (3, .int v3), (4, .ref v4), (5, .int x.1)] [] x.2) (fun o => fhRet Γ none o))) o) : fhW fhYF Γ 159 [(0, .ref 39), (1, .ref v1), (2, .int v2), (3, .int v3), (4, .ref v4), (5, .int v5), (6, .int v6)] [] σ := by
  unfold f_X9_findKnowers_159 at h
  refine fhW.blk fhPF fhLL hΓ [(.iinc 6 1, 1)] (pc' := 162) (lv' := [(6, .int (v6 + (1 : Int32))), (0, .ref 39), (1, .ref v1), (2, .int v2), (3, .int v3), (4, .ref v4), (5, .int v5)]) (st' := []) (σ' := σ) (by decide +kernel) rfl rfl rfl ?_
  refine fhW.goto hΓ (off := (-58)) (tgt := 104) (by decide +kernel) ?_
  refine fhW.sub (lv' := [(0, .ref 39), (1, .ref v1), (2, .int v2), (3, .int v3), (4, .ref v4), (5, .int v5), (6, .int (v6 + (1 : Int32)))]) [1, 2, 3, 4, 5, 6, 0] rfl ?_
  have e9 := Option.some.inj h
  subst e9
  exact hk
set_option maxRecDepth 100000 in
set_option maxHeartbeats 4000000 in
theorem L_X9_findKnowers_104 {Γ : fhX} (hE : fhEok fhYF (fhEn Γ)) (hΓ : fhOk fhYF 9 cX9_findKnowers 8 none Γ) (hd : 2 ≤ fhD Γ) (v1 : Nat) (v2 : Int32) (v3 : Int32) (v4 : Nat) (v5 : Int32) (v6 : Int32) (hv1 : fhiC v1 = true) (hv4 : fhiC v4 = true) (σ : fhM) (o : (Int32 × fhM) ⊕ ((Int32 × fhM) ⊕ (fhM))) (h : f_X9_findKnowers_104 v1 v2 v3 v4 v5 v6 σ = some o) (hk : (fhK (fun x => fhW fhYF Γ 104 [(0, .ref 39), (1, .ref v1), (2, .int v2), (3, .int v3), (4, .ref v4), (5, .int v5), (6, .int x.1)] [] x.2) (fhK (fun x => fhW fhYF Γ 30 [(0, .ref 39), (1, .ref v1), (2, .int v2), (3, .int v3), (4, .ref v4), (5, .int x.1)] [] x.2) (fun o => fhRet Γ none o))) o) : fhW fhYF Γ 104 [(0, .ref 39), (1, .ref v1), (2, .int v2), (3, .int v3), (4, .ref v4), (5, .int v5), (6, .int v6)] [] σ := by
  unfold f_X9_findKnowers_104 at h
  refine fhW.blk fhPF fhLL hΓ [(.iload 6, 0), (.iload_n 3, 0)] (pc' := 107) (lv' := [(0, .ref 39), (1, .ref v1), (2, .int v2), (3, .int v3), (4, .ref v4), (5, .int v5), (6, .int v6)]) (st' := [.int v3, .int v6]) (σ' := σ) (by decide +kernel) rfl rfl rfl ?_
  refine fhW.i_ge hΓ (tgt := 165) (show fhbk _ _ (.if_icmp .ge (58)) _ = true by decide +kernel) (fun hc => ?_) (fun hc => ?_)
  · rw [if_pos hc] at h
    refine fhW.blk fhPF fhLL hΓ [(.iload_n 2, 0), (.istore 6, 0)] (pc' := 168) (lv' := [(6, .int v2), (0, .ref 39), (1, .ref v1), (2, .int v2), (3, .int v3), (4, .ref v4), (5, .int v5)]) (st' := []) (σ' := σ) (by decide +kernel) rfl rfl rfl ?_
    refine fhW.sub (lv' := [(0, .ref 39), (1, .ref v1), (2, .int v2), (3, .int v3), (4, .ref v4), (5, .int v5), (6, .int v2)]) [1, 2, 3, 4, 5, 6, 0] rfl ?_
    obtain ⟨z1, hz, e1⟩ := Option.map_eq_some_iff.mp h
    clear h
    subst e1
    have h := hz
    have hk : (fhK (fun x => fhW fhYF Γ 30 [(0, .ref 39), (1, .ref v1), (2, .int v2), (3, .int v3), (4, .ref v4), (5, .int x.1)] [] x.2) (fun o => fhRet Γ none o)) z1 := hk
    exact fhlp_ok (W := (fun x => fhW fhYF Γ 168 [(0, .ref 39), (1, .ref v1), (2, .int v2), (3, .int v3), (4, .ref v4), (5, .int v5), (6, .int x.1)] [] x.2)) (B := (fhK (fun x => fhW fhYF Γ 30 [(0, .ref 39), (1, .ref v1), (2, .int v2), (3, .int v3), (4, .ref v4), (5, .int x.1)] [] x.2) (fun o => fhRet Γ none o))) (fun x o h hk => L_X9_findKnowers_168 hE hΓ hd v1 v2 v3 v4 v5 x.1 hv1 hv4 x.2 o h hk) (v2, σ) _ h hk
  · rw [if_neg hc] at h
    refine fhW.blk fhPF fhLL hΓ [(.aload_n 1, 0), (.iload 6, 0)] (pc' := 113) (lv' := [(0, .ref 39), (1, .ref v1), (2, .int v2), (3, .int v3), (4, .ref v4), (5, .int v5), (6, .int v6)]) (st' := [.int v6, .ref v1]) (σ' := σ) (by decide +kernel) rfl rfl rfl ?_
    refine fhW.callv hΓ mvX2_get ml_9_60 (t := v1) (ci := 2) (av := [.int v6]) (rest := []) (r := (some (.int (fcG σ v1 v6)))) (σ' := σ) (T_X2_get (E := fhEn Γ) (d := fhD Γ - 1) hE (by omega) v1 v6 hv1 σ) (by omega) (by decide +kernel) rfl (fhiC_g hv1) rfl (Nat.le_of_ble_eq_true rfl) rfl ?_
    show fhW fhYF Γ 116 [(0, .ref 39), (1, .ref v1), (2, .int v2), (3, .int v3), (4, .ref v4), (5, .int v5), (6, .int v6)] [.int (fcG σ v1 v6)] σ
    refine fhW.blk fhPF fhLL hΓ [(.istore 7, 0), (.aload_n 0, 0), (.getfield 29, 0), (.aload_n 0, 0), (.iload 7, 0), (.iload 5, 0)] (pc' := 127) (lv' := [(7, .int (fcG σ v1 v6)), (0, .ref 39), (1, .ref v1), (2, .int v2), (3, .int v3), (4, .ref v4), (5, .int v5), (6, .int v6)]) (st' := [.int v5, .int (fcG σ v1 v6), .ref 39, .ref 48]) (σ' := σ) (by decide +kernel) rfl rfl rfl ?_
    refine fhW.callv hΓ mvX9_viewOf ml_9_106 (t := 39) (ci := 9) (av := [.int (fcG σ v1 v6), .int v5]) (rest := [.ref 48]) (r := (some (.int (f_X9_viewOf (fcG σ v1 v6) v5 σ)))) (σ' := σ) (T_X9_viewOf (E := fhEn Γ) (d := fhD Γ - 1) hE (by omega) (fcG σ v1 v6) v5 σ) (by omega) (by decide +kernel) rfl rfl rfl (Nat.le_of_ble_eq_true rfl) rfl ?_
    show fhW fhYF Γ 130 [(7, .int (fcG σ v1 v6)), (0, .ref 39), (1, .ref v1), (2, .int v2), (3, .int v3), (4, .ref v4), (5, .int v5), (6, .int v6)] [.int (f_X9_viewOf (fcG σ v1 v6) v5 σ), .ref 48] σ
    refine fhW.callv hΓ mvX2_get ml_9_60 (t := 48) (ci := 2) (av := [.int (f_X9_viewOf (fcG σ v1 v6) v5 σ)]) (rest := []) (r := (some (.int (fcG σ 48 (f_X9_viewOf (fcG σ v1 v6) v5 σ))))) (σ' := σ) (T_X2_get (E := fhEn Γ) (d := fhD Γ - 1) hE (by omega) 48 (f_X9_viewOf (fcG σ v1 v6) v5 σ) rfl σ) (by omega) (by decide +kernel) rfl rfl rfl (Nat.le_of_ble_eq_true rfl) rfl ?_
    show fhW fhYF Γ 133 [(7, .int (fcG σ v1 v6)), (0, .ref 39), (1, .ref v1), (2, .int v2), (3, .int v3), (4, .ref v4), (5, .int v5), (6, .int v6)] [.int (fcG σ 48 (f_X9_viewOf (fcG σ v1 v6) v5 σ))] σ
    refine fhW.calls hΓ msJ6_bitCount_0f7a4 ml_9_109 (av := [.int (fcG σ 48 (f_X9_viewOf (fcG σ v1 v6) v5 σ))]) (rest := []) (r := (some (.int (f_J6_bitCount_0f7a4 (fcG σ 48 (f_X9_viewOf (fcG σ v1 v6) v5 σ)) σ)))) (σ' := σ) (T_J6_bitCount_0f7a4 (E := fhEn Γ) (d := fhD Γ - 1) hE (by omega) (fcG σ 48 (f_X9_viewOf (fcG σ v1 v6) v5 σ)) σ) (by omega) (by decide +kernel) rfl (Nat.le_of_ble_eq_true rfl) rfl ?_
    show fhW fhYF Γ 136 [(7, .int (fcG σ v1 v6)), (0, .ref 39), (1, .ref v1), (2, .int v2), (3, .int v3), (4, .ref v4), (5, .int v5), (6, .int v6)] [.int (f_J6_bitCount_0f7a4 (fcG σ 48 (f_X9_viewOf (fcG σ v1 v6) v5 σ)) σ)] σ
    refine fhW.blk fhPF fhLL hΓ [(.iconst 1, 1)] (pc' := 137) (lv' := [(7, .int (fcG σ v1 v6)), (0, .ref 39), (1, .ref v1), (2, .int v2), (3, .int v3), (4, .ref v4), (5, .int v5), (6, .int v6)]) (st' := [.int (1 : Int32), .int (f_J6_bitCount_0f7a4 (fcG σ 48 (f_X9_viewOf (fcG σ v1 v6) v5 σ)) σ)]) (σ' := σ) (by decide +kernel) rfl rfl rfl ?_
    refine fhW.i_ne hΓ (tgt := 159) (show fhbk _ _ (.if_icmp .ne (22)) _ = true by decide +kernel) (fun hc => ?_) (fun hc => ?_)
    · rw [if_neg hc] at h
      refine fhW.sub (lv' := [(0, .ref 39), (1, .ref v1), (2, .int v2), (3, .int v3), (4, .ref v4), (5, .int v5), (6, .int v6)]) [1, 2, 3, 4, 5, 6, 7] rfl ?_
      exact L_X9_findKnowers_159 hE hΓ hd v1 v2 v3 v4 v5 v6 hv1 hv4 σ _ h hk
    · rw [if_pos hc] at h
      refine fhW.blk fhPF fhLL hΓ [(.aload 4, 0), (.iload 7, 0), (.aload 4, 0), (.iload 7, 0)] (pc' := 148) (lv' := [(7, .int (fcG σ v1 v6)), (0, .ref 39), (1, .ref v1), (2, .int v2), (3, .int v3), (4, .ref v4), (5, .int v5), (6, .int v6)]) (st' := [.int (fcG σ v1 v6), .ref v4, .int (fcG σ v1 v6), .ref v4]) (σ' := σ) (by decide +kernel) rfl rfl rfl ?_
      refine fhW.callv hΓ mvX2_get ml_9_60 (t := v4) (ci := 2) (av := [.int (fcG σ v1 v6)]) (rest := [.int (fcG σ v1 v6), .ref v4]) (r := (some (.int (fcG σ v4 (fcG σ v1 v6))))) (σ' := σ) (T_X2_get (E := fhEn Γ) (d := fhD Γ - 1) hE (by omega) v4 (fcG σ v1 v6) hv4 σ) (by omega) (by decide +kernel) rfl (fhiC_g hv4) rfl (Nat.le_of_ble_eq_true rfl) rfl ?_
      show fhW fhYF Γ 151 [(7, .int (fcG σ v1 v6)), (0, .ref 39), (1, .ref v1), (2, .int v2), (3, .int v3), (4, .ref v4), (5, .int v5), (6, .int v6)] [.int (fcG σ v4 (fcG σ v1 v6)), .int (fcG σ v1 v6), .ref v4] σ
      refine fhW.blk fhPF fhLL hΓ [(.iconst 1, 1), (.iload 5, 0), (.ishl, 0), (.ior, 0)] (pc' := 156) (lv' := [(7, .int (fcG σ v1 v6)), (0, .ref 39), (1, .ref v1), (2, .int v2), (3, .int v3), (4, .ref v4), (5, .int v5), (6, .int v6)]) (st' := [.int ((fcG σ v4 (fcG σ v1 v6)) ||| ((1 : Int32) <<< (v5 &&& 31))), .int (fcG σ v1 v6), .ref v4]) (σ' := σ) (by decide +kernel) rfl rfl rfl ?_
      refine fhW.callv hΓ mvX2_put ml_9_56 (t := v4) (ci := 2) (av := [.int (fcG σ v1 v6), .int ((fcG σ v4 (fcG σ v1 v6)) ||| ((1 : Int32) <<< (v5 &&& 31)))]) (rest := []) (r := none) (σ' := (fcP σ v4 (fcG σ v1 v6) ((fcG σ v4 (fcG σ v1 v6)) ||| ((1 : Int32) <<< (v5 &&& 31))))) (T_X2_put (E := fhEn Γ) (d := fhD Γ - 1) hE (by omega) v4 (fcG σ v1 v6) ((fcG σ v4 (fcG σ v1 v6)) ||| ((1 : Int32) <<< (v5 &&& 31))) hv4 σ) (by omega) (by decide +kernel) rfl (fhiC_g hv4) rfl (Nat.le_of_ble_eq_true rfl) rfl ?_
      show fhW fhYF Γ 159 [(7, .int (fcG σ v1 v6)), (0, .ref 39), (1, .ref v1), (2, .int v2), (3, .int v3), (4, .ref v4), (5, .int v5), (6, .int v6)] [] (fcP σ v4 (fcG σ v1 v6) ((fcG σ v4 (fcG σ v1 v6)) ||| ((1 : Int32) <<< (v5 &&& 31))))
      refine fhW.sub (lv' := [(0, .ref 39), (1, .ref v1), (2, .int v2), (3, .int v3), (4, .ref v4), (5, .int v5), (6, .int v6)]) [1, 2, 3, 4, 5, 6, 7] rfl ?_
      exact L_X9_findKnowers_159 hE hΓ hd v1 v2 v3 v4 v5 v6 hv1 hv4 (fcP σ v4 (fcG σ v1 v6) ((fcG σ v4 (fcG σ v1 v6)) ||| ((1 : Int32) <<< (v5 &&& 31)))) _ h hk
set_option maxRecDepth 100000 in
set_option maxHeartbeats 4000000 in
theorem L_X9_findKnowers_42 {Γ : fhX} (hE : fhEok fhYF (fhEn Γ)) (hΓ : fhOk fhYF 9 cX9_findKnowers 8 none Γ) (hd : 2 ≤ fhD Γ) (v1 : Nat) (v2 : Int32) (v3 : Int32) (v4 : Nat) (v5 : Int32) (v6 : Int32) (hv1 : fhiC v1 = true) (hv4 : fhiC v4 = true) (σ : fhM) (o : (Int32 × fhM) ⊕ ((Int32 × fhM) ⊕ (fhM))) (h : f_X9_findKnowers_42 v1 v2 v3 v4 v5 v6 σ = some o) (hk : (fhK (fun x => fhW fhYF Γ 42 [(0, .ref 39), (1, .ref v1), (2, .int v2), (3, .int v3), (4, .ref v4), (5, .int v5), (6, .int x.1)] [] x.2) (fhK (fun x => fhW fhYF Γ 30 [(0, .ref 39), (1, .ref v1), (2, .int v2), (3, .int v3), (4, .ref v4), (5, .int x.1)] [] x.2) (fun o => fhRet Γ none o))) o) : fhW fhYF Γ 42 [(0, .ref 39), (1, .ref v1), (2, .int v2), (3, .int v3), (4, .ref v4), (5, .int v5), (6, .int v6)] [] σ := by
  unfold f_X9_findKnowers_42 at h
  refine fhW.blk fhPF fhLL hΓ [(.iload 6, 0), (.iload_n 3, 0)] (pc' := 45) (lv' := [(0, .ref 39), (1, .ref v1), (2, .int v2), (3, .int v3), (4, .ref v4), (5, .int v5), (6, .int v6)]) (st' := [.int v3, .int v6]) (σ' := σ) (by decide +kernel) rfl rfl rfl ?_
  refine fhW.i_ge hΓ (tgt := 101) (show fhbk _ _ (.if_icmp .ge (56)) _ = true by decide +kernel) (fun hc => ?_) (fun hc => ?_)
  · rw [if_pos hc] at h
    refine fhW.blk fhPF fhLL hΓ [(.iload_n 2, 0), (.istore 6, 0)] (pc' := 104) (lv' := [(6, .int v2), (0, .ref 39), (1, .ref v1), (2, .int v2), (3, .int v3), (4, .ref v4), (5, .int v5)]) (st' := []) (σ' := σ) (by decide +kernel) rfl rfl rfl ?_
    refine fhW.sub (lv' := [(0, .ref 39), (1, .ref v1), (2, .int v2), (3, .int v3), (4, .ref v4), (5, .int v5), (6, .int v2)]) [1, 2, 3, 4, 5, 6, 0] rfl ?_
    obtain ⟨z2, hz, e2⟩ := Option.map_eq_some_iff.mp h
    clear h
    subst e2
    have h := hz
    have hk : (fhK (fun x => fhW fhYF Γ 30 [(0, .ref 39), (1, .ref v1), (2, .int v2), (3, .int v3), (4, .ref v4), (5, .int x.1)] [] x.2) (fun o => fhRet Γ none o)) z2 := hk
    exact fhlp_ok (W := (fun x => fhW fhYF Γ 104 [(0, .ref 39), (1, .ref v1), (2, .int v2), (3, .int v3), (4, .ref v4), (5, .int v5), (6, .int x.1)] [] x.2)) (B := (fhK (fun x => fhW fhYF Γ 30 [(0, .ref 39), (1, .ref v1), (2, .int v2), (3, .int v3), (4, .ref v4), (5, .int x.1)] [] x.2) (fun o => fhRet Γ none o))) (fun x o h hk => L_X9_findKnowers_104 hE hΓ hd v1 v2 v3 v4 v5 x.1 hv1 hv4 x.2 o h hk) (v2, σ) _ h hk
  · rw [if_neg hc] at h
    refine fhW.blk fhPF fhLL hΓ [(.aload_n 0, 0), (.aload_n 1, 0), (.iload 6, 0)] (pc' := 52) (lv' := [(0, .ref 39), (1, .ref v1), (2, .int v2), (3, .int v3), (4, .ref v4), (5, .int v5), (6, .int v6)]) (st' := [.int v6, .ref v1, .ref 39]) (σ' := σ) (by decide +kernel) rfl rfl rfl ?_
    refine fhW.callv hΓ mvX2_get ml_9_60 (t := v1) (ci := 2) (av := [.int v6]) (rest := [.ref 39]) (r := (some (.int (fcG σ v1 v6)))) (σ' := σ) (T_X2_get (E := fhEn Γ) (d := fhD Γ - 1) hE (by omega) v1 v6 hv1 σ) (by omega) (by decide +kernel) rfl (fhiC_g hv1) rfl (Nat.le_of_ble_eq_true rfl) rfl ?_
    show fhW fhYF Γ 55 [(0, .ref 39), (1, .ref v1), (2, .int v2), (3, .int v3), (4, .ref v4), (5, .int v5), (6, .int v6)] [.int (fcG σ v1 v6), .ref 39] σ
    refine fhW.blk fhPF fhLL hΓ [(.iload 5, 0)] (pc' := 57) (lv' := [(0, .ref 39), (1, .ref v1), (2, .int v2), (3, .int v3), (4, .ref v4), (5, .int v5), (6, .int v6)]) (st' := [.int v5, .int (fcG σ v1 v6), .ref 39]) (σ' := σ) (by decide +kernel) rfl rfl rfl ?_
    refine fhW.callv hΓ mvX9_viewOf ml_9_106 (t := 39) (ci := 9) (av := [.int (fcG σ v1 v6), .int v5]) (rest := []) (r := (some (.int (f_X9_viewOf (fcG σ v1 v6) v5 σ)))) (σ' := σ) (T_X9_viewOf (E := fhEn Γ) (d := fhD Γ - 1) hE (by omega) (fcG σ v1 v6) v5 σ) (by omega) (by decide +kernel) rfl rfl rfl (Nat.le_of_ble_eq_true rfl) rfl ?_
    show fhW fhYF Γ 60 [(0, .ref 39), (1, .ref v1), (2, .int v2), (3, .int v3), (4, .ref v4), (5, .int v5), (6, .int v6)] [.int (f_X9_viewOf (fcG σ v1 v6) v5 σ)] σ
    refine fhW.blk fhPF fhLL hΓ [(.istore 7, 0), (.aload_n 0, 0), (.getfield 29, 0), (.iload 7, 0), (.aload_n 0, 0), (.getfield 29, 0), (.iload 7, 0)] (pc' := 74) (lv' := [(7, .int (f_X9_viewOf (fcG σ v1 v6) v5 σ)), (0, .ref 39), (1, .ref v1), (2, .int v2), (3, .int v3), (4, .ref v4), (5, .int v5), (6, .int v6)]) (st' := [.int (f_X9_viewOf (fcG σ v1 v6) v5 σ), .ref 48, .int (f_X9_viewOf (fcG σ v1 v6) v5 σ), .ref 48]) (σ' := σ) (by decide +kernel) rfl rfl rfl ?_
    refine fhW.callv hΓ mvX2_get ml_9_60 (t := 48) (ci := 2) (av := [.int (f_X9_viewOf (fcG σ v1 v6) v5 σ)]) (rest := [.int (f_X9_viewOf (fcG σ v1 v6) v5 σ), .ref 48]) (r := (some (.int (fcG σ 48 (f_X9_viewOf (fcG σ v1 v6) v5 σ))))) (σ' := σ) (T_X2_get (E := fhEn Γ) (d := fhD Γ - 1) hE (by omega) 48 (f_X9_viewOf (fcG σ v1 v6) v5 σ) rfl σ) (by omega) (by decide +kernel) rfl rfl rfl (Nat.le_of_ble_eq_true rfl) rfl ?_
    show fhW fhYF Γ 77 [(7, .int (f_X9_viewOf (fcG σ v1 v6) v5 σ)), (0, .ref 39), (1, .ref v1), (2, .int v2), (3, .int v3), (4, .ref v4), (5, .int v5), (6, .int v6)] [.int (fcG σ 48 (f_X9_viewOf (fcG σ v1 v6) v5 σ)), .int (f_X9_viewOf (fcG σ v1 v6) v5 σ), .ref 48] σ
    refine fhW.blk fhPF fhLL hΓ [(.iconst 1, 1), (.aload_n 0, 0), (.aload_n 1, 0), (.iload 6, 0)] (pc' := 82) (lv' := [(7, .int (f_X9_viewOf (fcG σ v1 v6) v5 σ)), (0, .ref 39), (1, .ref v1), (2, .int v2), (3, .int v3), (4, .ref v4), (5, .int v5), (6, .int v6)]) (st' := [.int v6, .ref v1, .ref 39, .int (1 : Int32), .int (fcG σ 48 (f_X9_viewOf (fcG σ v1 v6) v5 σ)), .int (f_X9_viewOf (fcG σ v1 v6) v5 σ), .ref 48]) (σ' := σ) (by decide +kernel) rfl rfl rfl ?_
    refine fhW.callv hΓ mvX2_get ml_9_60 (t := v1) (ci := 2) (av := [.int v6]) (rest := [.ref 39, .int (1 : Int32), .int (fcG σ 48 (f_X9_viewOf (fcG σ v1 v6) v5 σ)), .int (f_X9_viewOf (fcG σ v1 v6) v5 σ), .ref 48]) (r := (some (.int (fcG σ v1 v6)))) (σ' := σ) (T_X2_get (E := fhEn Γ) (d := fhD Γ - 1) hE (by omega) v1 v6 hv1 σ) (by omega) (by decide +kernel) rfl (fhiC_g hv1) rfl (Nat.le_of_ble_eq_true rfl) rfl ?_
    show fhW fhYF Γ 85 [(7, .int (f_X9_viewOf (fcG σ v1 v6) v5 σ)), (0, .ref 39), (1, .ref v1), (2, .int v2), (3, .int v3), (4, .ref v4), (5, .int v5), (6, .int v6)] [.int (fcG σ v1 v6), .ref 39, .int (1 : Int32), .int (fcG σ 48 (f_X9_viewOf (fcG σ v1 v6) v5 σ)), .int (f_X9_viewOf (fcG σ v1 v6) v5 σ), .ref 48] σ
    refine fhW.blk fhPF fhLL hΓ [(.iload 5, 0)] (pc' := 87) (lv' := [(7, .int (f_X9_viewOf (fcG σ v1 v6) v5 σ)), (0, .ref 39), (1, .ref v1), (2, .int v2), (3, .int v3), (4, .ref v4), (5, .int v5), (6, .int v6)]) (st' := [.int v5, .int (fcG σ v1 v6), .ref 39, .int (1 : Int32), .int (fcG σ 48 (f_X9_viewOf (fcG σ v1 v6) v5 σ)), .int (f_X9_viewOf (fcG σ v1 v6) v5 σ), .ref 48]) (σ' := σ) (by decide +kernel) rfl rfl rfl ?_
    refine fhW.callv hΓ mvX9_markOf ml_9_99 (t := 39) (ci := 9) (av := [.int (fcG σ v1 v6), .int v5]) (rest := [.int (1 : Int32), .int (fcG σ 48 (f_X9_viewOf (fcG σ v1 v6) v5 σ)), .int (f_X9_viewOf (fcG σ v1 v6) v5 σ), .ref 48]) (r := (some (.int (f_X9_markOf (fcG σ v1 v6) v5 σ)))) (σ' := σ) (T_X9_markOf (E := fhEn Γ) (d := fhD Γ - 1) hE (by omega) (fcG σ v1 v6) v5 σ) (by omega) (by decide +kernel) rfl rfl rfl (Nat.le_of_ble_eq_true rfl) rfl ?_
    show fhW fhYF Γ 90 [(7, .int (f_X9_viewOf (fcG σ v1 v6) v5 σ)), (0, .ref 39), (1, .ref v1), (2, .int v2), (3, .int v3), (4, .ref v4), (5, .int v5), (6, .int v6)] [.int (f_X9_markOf (fcG σ v1 v6) v5 σ), .int (1 : Int32), .int (fcG σ 48 (f_X9_viewOf (fcG σ v1 v6) v5 σ)), .int (f_X9_viewOf (fcG σ v1 v6) v5 σ), .ref 48] σ
    refine fhW.blk fhPF fhLL hΓ [(.ishl, 0), (.ior, 0)] (pc' := 92) (lv' := [(7, .int (f_X9_viewOf (fcG σ v1 v6) v5 σ)), (0, .ref 39), (1, .ref v1), (2, .int v2), (3, .int v3), (4, .ref v4), (5, .int v5), (6, .int v6)]) (st' := [.int ((fcG σ 48 (f_X9_viewOf (fcG σ v1 v6) v5 σ)) ||| ((1 : Int32) <<< ((f_X9_markOf (fcG σ v1 v6) v5 σ) &&& 31))), .int (f_X9_viewOf (fcG σ v1 v6) v5 σ), .ref 48]) (σ' := σ) (by decide +kernel) rfl rfl rfl ?_
    refine fhW.callv hΓ mvX2_put ml_9_56 (t := 48) (ci := 2) (av := [.int (f_X9_viewOf (fcG σ v1 v6) v5 σ), .int ((fcG σ 48 (f_X9_viewOf (fcG σ v1 v6) v5 σ)) ||| ((1 : Int32) <<< ((f_X9_markOf (fcG σ v1 v6) v5 σ) &&& 31)))]) (rest := []) (r := none) (σ' := (fcP σ 48 (f_X9_viewOf (fcG σ v1 v6) v5 σ) ((fcG σ 48 (f_X9_viewOf (fcG σ v1 v6) v5 σ)) ||| ((1 : Int32) <<< ((f_X9_markOf (fcG σ v1 v6) v5 σ) &&& 31))))) (T_X2_put (E := fhEn Γ) (d := fhD Γ - 1) hE (by omega) 48 (f_X9_viewOf (fcG σ v1 v6) v5 σ) ((fcG σ 48 (f_X9_viewOf (fcG σ v1 v6) v5 σ)) ||| ((1 : Int32) <<< ((f_X9_markOf (fcG σ v1 v6) v5 σ) &&& 31))) rfl σ) (by omega) (by decide +kernel) rfl rfl rfl (Nat.le_of_ble_eq_true rfl) rfl ?_
    show fhW fhYF Γ 95 [(7, .int (f_X9_viewOf (fcG σ v1 v6) v5 σ)), (0, .ref 39), (1, .ref v1), (2, .int v2), (3, .int v3), (4, .ref v4), (5, .int v5), (6, .int v6)] [] (fcP σ 48 (f_X9_viewOf (fcG σ v1 v6) v5 σ) ((fcG σ 48 (f_X9_viewOf (fcG σ v1 v6) v5 σ)) ||| ((1 : Int32) <<< ((f_X9_markOf (fcG σ v1 v6) v5 σ) &&& 31))))
    refine fhW.blk fhPF fhLL hΓ [(.iinc 6 1, 1)] (pc' := 98) (lv' := [(6, .int (v6 + (1 : Int32))), (7, .int (f_X9_viewOf (fcG σ v1 v6) v5 σ)), (0, .ref 39), (1, .ref v1), (2, .int v2), (3, .int v3), (4, .ref v4), (5, .int v5)]) (st' := []) (σ' := (fcP σ 48 (f_X9_viewOf (fcG σ v1 v6) v5 σ) ((fcG σ 48 (f_X9_viewOf (fcG σ v1 v6) v5 σ)) ||| ((1 : Int32) <<< ((f_X9_markOf (fcG σ v1 v6) v5 σ) &&& 31))))) (by decide +kernel) rfl rfl rfl ?_
    refine fhW.goto hΓ (off := (-56)) (tgt := 42) (by decide +kernel) ?_
    refine fhW.sub (lv' := [(0, .ref 39), (1, .ref v1), (2, .int v2), (3, .int v3), (4, .ref v4), (5, .int v5), (6, .int (v6 + (1 : Int32)))]) [2, 3, 4, 5, 6, 7, 0] rfl ?_
    have e9 := Option.some.inj h
    subst e9
    exact hk
set_option maxRecDepth 100000 in
set_option maxHeartbeats 4000000 in
theorem L_X9_findKnowers_30 {Γ : fhX} (hE : fhEok fhYF (fhEn Γ)) (hΓ : fhOk fhYF 9 cX9_findKnowers 8 none Γ) (hd : 2 ≤ fhD Γ) (v1 : Nat) (v2 : Int32) (v3 : Int32) (v4 : Nat) (v5 : Int32) (hv1 : fhiC v1 = true) (hv4 : fhiC v4 = true) (σ : fhM) (o : (Int32 × fhM) ⊕ (fhM)) (h : f_X9_findKnowers_30 v1 v2 v3 v4 v5 σ = some o) (hk : (fhK (fun x => fhW fhYF Γ 30 [(0, .ref 39), (1, .ref v1), (2, .int v2), (3, .int v3), (4, .ref v4), (5, .int x.1)] [] x.2) (fun o => fhRet Γ none o)) o) : fhW fhYF Γ 30 [(0, .ref 39), (1, .ref v1), (2, .int v2), (3, .int v3), (4, .ref v4), (5, .int v5)] [] σ := by
  unfold f_X9_findKnowers_30 at h
  refine fhW.blk fhPF fhLL hΓ [(.iload 5, 0), (.aload_n 0, 0), (.getfield 51, 0)] (pc' := 36) (lv' := [(0, .ref 39), (1, .ref v1), (2, .int v2), (3, .int v3), (4, .ref v4), (5, .int v5)]) (st' := [.int (σ.1 39 9), .int v5]) (σ' := σ) (by decide +kernel) rfl rfl rfl ?_
  refine fhW.i_ge hΓ (tgt := 206) (show fhbk _ _ (.if_icmp .ge (170)) _ = true by decide +kernel) (fun hc => ?_) (fun hc => ?_)
  · rw [if_pos hc] at h
    have e9 := Option.some.inj h
    subst e9
    exact fhW.vret hΓ (by decide +kernel) hk
  · rw [if_neg hc] at h
    refine fhW.blk fhPF fhLL hΓ [(.iload_n 2, 0), (.istore 6, 0)] (pc' := 42) (lv' := [(6, .int v2), (0, .ref 39), (1, .ref v1), (2, .int v2), (3, .int v3), (4, .ref v4), (5, .int v5)]) (st' := []) (σ' := σ) (by decide +kernel) rfl rfl rfl ?_
    refine fhW.sub (lv' := [(0, .ref 39), (1, .ref v1), (2, .int v2), (3, .int v3), (4, .ref v4), (5, .int v5), (6, .int v2)]) [1, 2, 3, 4, 5, 6, 0] rfl ?_
    exact fhlp_ok (W := (fun x => fhW fhYF Γ 42 [(0, .ref 39), (1, .ref v1), (2, .int v2), (3, .int v3), (4, .ref v4), (5, .int v5), (6, .int x.1)] [] x.2)) (B := (fhK (fun x => fhW fhYF Γ 30 [(0, .ref 39), (1, .ref v1), (2, .int v2), (3, .int v3), (4, .ref v4), (5, .int x.1)] [] x.2) (fun o => fhRet Γ none o))) (fun x o h hk => L_X9_findKnowers_42 hE hΓ hd v1 v2 v3 v4 v5 x.1 hv1 hv4 x.2 o h hk) (v2, σ) _ h hk
set_option maxRecDepth 100000 in
set_option maxHeartbeats 4000000 in
theorem L_X9_findKnowers_3 {Γ : fhX} (hE : fhEok fhYF (fhEn Γ)) (hΓ : fhOk fhYF 9 cX9_findKnowers 8 none Γ) (hd : 2 ≤ fhD Γ) (v1 : Nat) (v2 : Int32) (v3 : Int32) (v4 : Nat) (v5 : Int32) (hv1 : fhiC v1 = true) (hv4 : fhiC v4 = true) (σ : fhM) (o : (Int32 × fhM) ⊕ (fhM)) (h : f_X9_findKnowers_3 v1 v2 v3 v4 v5 σ = some o) (hk : (fhK (fun x => fhW fhYF Γ 3 [(0, .ref 39), (1, .ref v1), (2, .int v2), (3, .int v3), (4, .ref v4), (5, .int x.1)] [] x.2) (fun o => fhRet Γ none o)) o) : fhW fhYF Γ 3 [(0, .ref 39), (1, .ref v1), (2, .int v2), (3, .int v3), (4, .ref v4), (5, .int v5)] [] σ := by
  unfold f_X9_findKnowers_3 at h
  refine fhW.blk fhPF fhLL hΓ [(.iload 5, 0), (.iload_n 3, 0)] (pc' := 6) (lv' := [(0, .ref 39), (1, .ref v1), (2, .int v2), (3, .int v3), (4, .ref v4), (5, .int v5)]) (st' := [.int v3, .int v5]) (σ' := σ) (by decide +kernel) rfl rfl rfl ?_
  refine fhW.i_ge hΓ (tgt := 27) (show fhbk _ _ (.if_icmp .ge (21)) _ = true by decide +kernel) (fun hc => ?_) (fun hc => ?_)
  · rw [if_pos hc] at h
    refine fhW.blk fhPF fhLL hΓ [(.iconst 0, 0), (.istore 5, 0)] (pc' := 30) (lv' := [(5, .int (0 : Int32)), (0, .ref 39), (1, .ref v1), (2, .int v2), (3, .int v3), (4, .ref v4)]) (st' := []) (σ' := σ) (by decide +kernel) rfl rfl rfl ?_
    refine fhW.sub (lv' := [(0, .ref 39), (1, .ref v1), (2, .int v2), (3, .int v3), (4, .ref v4), (5, .int (0 : Int32))]) [1, 2, 3, 4, 5, 0] rfl ?_
    obtain ⟨z3, hz, e3⟩ := Option.map_eq_some_iff.mp h
    clear h
    subst e3
    have h := hz
    have hk : (fun o => fhRet Γ none o) z3 := hk
    exact fhlp_ok (W := (fun x => fhW fhYF Γ 30 [(0, .ref 39), (1, .ref v1), (2, .int v2), (3, .int v3), (4, .ref v4), (5, .int x.1)] [] x.2)) (B := (fun o => fhRet Γ none o)) (fun x o h hk => L_X9_findKnowers_30 hE hΓ hd v1 v2 v3 v4 x.1 hv1 hv4 x.2 o h hk) ((0 : Int32), σ) _ h hk
  · rw [if_neg hc] at h
    refine fhW.blk fhPF fhLL hΓ [(.aload 4, 0), (.aload_n 1, 0), (.iload 5, 0)] (pc' := 14) (lv' := [(0, .ref 39), (1, .ref v1), (2, .int v2), (3, .int v3), (4, .ref v4), (5, .int v5)]) (st' := [.int v5, .ref v1, .ref v4]) (σ' := σ) (by decide +kernel) rfl rfl rfl ?_
    refine fhW.callv hΓ mvX2_get ml_9_60 (t := v1) (ci := 2) (av := [.int v5]) (rest := [.ref v4]) (r := (some (.int (fcG σ v1 v5)))) (σ' := σ) (T_X2_get (E := fhEn Γ) (d := fhD Γ - 1) hE (by omega) v1 v5 hv1 σ) (by omega) (by decide +kernel) rfl (fhiC_g hv1) rfl (Nat.le_of_ble_eq_true rfl) rfl ?_
    show fhW fhYF Γ 17 [(0, .ref 39), (1, .ref v1), (2, .int v2), (3, .int v3), (4, .ref v4), (5, .int v5)] [.int (fcG σ v1 v5), .ref v4] σ
    refine fhW.blk fhPF fhLL hΓ [(.iconst 0, 0)] (pc' := 18) (lv' := [(0, .ref 39), (1, .ref v1), (2, .int v2), (3, .int v3), (4, .ref v4), (5, .int v5)]) (st' := [.int (0 : Int32), .int (fcG σ v1 v5), .ref v4]) (σ' := σ) (by decide +kernel) rfl rfl rfl ?_
    refine fhW.callv hΓ mvX2_put ml_9_56 (t := v4) (ci := 2) (av := [.int (fcG σ v1 v5), .int (0 : Int32)]) (rest := []) (r := none) (σ' := (fcP σ v4 (fcG σ v1 v5) (0 : Int32))) (T_X2_put (E := fhEn Γ) (d := fhD Γ - 1) hE (by omega) v4 (fcG σ v1 v5) (0 : Int32) hv4 σ) (by omega) (by decide +kernel) rfl (fhiC_g hv4) rfl (Nat.le_of_ble_eq_true rfl) rfl ?_
    show fhW fhYF Γ 21 [(0, .ref 39), (1, .ref v1), (2, .int v2), (3, .int v3), (4, .ref v4), (5, .int v5)] [] (fcP σ v4 (fcG σ v1 v5) (0 : Int32))
    refine fhW.blk fhPF fhLL hΓ [(.iinc 5 1, 1)] (pc' := 24) (lv' := [(5, .int (v5 + (1 : Int32))), (0, .ref 39), (1, .ref v1), (2, .int v2), (3, .int v3), (4, .ref v4)]) (st' := []) (σ' := (fcP σ v4 (fcG σ v1 v5) (0 : Int32))) (by decide +kernel) rfl rfl rfl ?_
    refine fhW.goto hΓ (off := (-21)) (tgt := 3) (by decide +kernel) ?_
    refine fhW.sub (lv' := [(0, .ref 39), (1, .ref v1), (2, .int v2), (3, .int v3), (4, .ref v4), (5, .int (v5 + (1 : Int32)))]) [1, 2, 3, 4, 5, 0] rfl ?_
    have e9 := Option.some.inj h
    subst e9
    exact hk
set_option maxRecDepth 100000 in
set_option maxHeartbeats 4000000 in
theorem L_X9_findKnowers_E {Γ : fhX} (hE : fhEok fhYF (fhEn Γ)) (hΓ : fhOk fhYF 9 cX9_findKnowers 8 none Γ) (hd : 2 ≤ fhD Γ) (v1 : Nat) (v2 : Int32) (v3 : Int32) (v4 : Nat) (hv1 : fhiC v1 = true) (hv4 : fhiC v4 = true) (σ : fhM) (o : fhM) (h : f_X9_findKnowers v1 v2 v3 v4 σ = some o) (hk : (fun o => fhRet Γ none o) o) : fhW fhYF Γ 0 [(0, .ref 39), (1, .ref v1), (2, .int v2), (3, .int v3), (4, .ref v4)] [] σ := by
  unfold f_X9_findKnowers at h
  refine fhW.blk fhPF fhLL hΓ [(.iload_n 2, 0), (.istore 5, 0)] (pc' := 3) (lv' := [(5, .int v2), (0, .ref 39), (1, .ref v1), (2, .int v2), (3, .int v3), (4, .ref v4)]) (st' := []) (σ' := σ) (by decide +kernel) rfl rfl rfl ?_
  refine fhW.sub (lv' := [(0, .ref 39), (1, .ref v1), (2, .int v2), (3, .int v3), (4, .ref v4), (5, .int v2)]) [1, 2, 3, 4, 5, 0] rfl ?_
  exact fhlp_ok (W := (fun x => fhW fhYF Γ 3 [(0, .ref 39), (1, .ref v1), (2, .int v2), (3, .int v3), (4, .ref v4), (5, .int x.1)] [] x.2)) (B := (fun o => fhRet Γ none o)) (fun x o h hk => L_X9_findKnowers_3 hE hΓ hd v1 v2 v3 v4 x.1 hv1 hv4 x.2 o h hk) (v2, σ) _ h hk
set_option maxRecDepth 100000 in
theorem T_X9_findKnowers {E : fhE} {d : Nat} (hE : fhEok fhYF E) (hd : 2 ≤ d) (v1 : Nat) (v2 : Int32) (v3 : Int32) (v4 : Nat) (hv1 : fhiC v1 = true) (hv4 : fhiC v4 = true) (σ : fhM) {o : fhM} (h : f_X9_findKnowers v1 v2 v3 v4 σ = some o) : fhC fhYF E d miX9_findKnowers [.ref 39, .ref v1, .int v2, .int v3, .ref v4] σ none o := by
  refine fhC.of (y := yX9_findKnowers) (cc := cX9_findKnowers) (nL := 8) (ret := none) 9 rfl (by decide +kernel) (Nat.le_of_ble_eq_true rfl) ?_
  intro Γ hΓ hR hD hEn
  subst hD; subst hEn
  exact L_X9_findKnowers_E hE hΓ hd v1 v2 v3 v4 hv1 hv4 σ _ h hR
set_option maxRecDepth 100000 in
set_option maxHeartbeats 4000000 in
theorem L_X0_forget_E {Γ : fhX} (hE : fhEok fhYF (fhEn Γ)) (hΓ : fhOk fhYF 0 cX0_forget 1 none Γ) (hd : 0 ≤ fhD Γ)   (σ : fhM) (o : fhM) (h : f_X0_forget σ = o) (hk : (fun o => fhRet Γ none o) o) : fhW fhYF Γ 0 [(0, .ref 57)] [] σ := by
  unfold f_X0_forget at h
  refine fhW.blk fhPF fhLL hΓ [(.aload_n 0, 0), (.iconst 0, 0), (.putfield 26, 0)] (pc' := 5) (lv' := [(0, .ref 57)]) (st' := []) (σ' := (fhI σ 57 3 (0 : Int32))) (by decide +kernel) rfl rfl rfl ?_
  subst h
  exact fhW.vret hΓ (by decide +kernel) hk
set_option maxRecDepth 100000 in
theorem T_X0_forget {E : fhE} {d : Nat} (hE : fhEok fhYF E) (hd : 0 ≤ d)   (σ : fhM) : fhC fhYF E d miX0_forget [.ref 57] σ none (f_X0_forget σ) := by
  refine fhC.of (y := yX0_forget) (cc := cX0_forget) (nL := 1) (ret := none) 0 rfl (by decide +kernel) (Nat.le_of_ble_eq_true rfl) ?_
  intro Γ hΓ hR hD hEn
  subst hD; subst hEn
  exact L_X0_forget_E hE hΓ hd   σ _ rfl hR
set_option maxRecDepth 100000 in
set_option maxHeartbeats 4000000 in
theorem L_X4_settle_E {Γ : fhX} (hE : fhEok fhYF (fhEn Γ)) (hΓ : fhOk fhYF 4 cX4_settle 1 none Γ) (hd : 3 ≤ fhD Γ)   (σ : fhM) (o : fhM) (h : f_X4_settle σ = some o) (hk : (fun o => fhRet Γ none o) o) : fhW fhYF Γ 0 [(0, .ref 56)] [] σ := by
  unfold f_X4_settle at h
  refine fhW.blk fhPF fhLL hΓ [(.aload_n 0, 0), (.getfield 42, 0), (.aload_n 0, 0), (.getfield 36, 0), (.iconst 0, 0), (.aload_n 0, 0), (.getfield 63, 0), (.aload_n 0, 0), (.getfield 39, 0)] (pc' := 17) (lv' := [(0, .ref 56)]) (st' := [.ref 74, .int (σ.1 56 8), .int (0 : Int32), .ref 72, .ref 39]) (σ' := σ) (by decide +kernel) rfl rfl rfl ?_
  obtain ⟨q1, hb1, h⟩ := Option.bind_eq_some_iff.mp h
  refine fhW.callv hΓ mvX9_findKnowers ml_4_75 (t := 39) (ci := 9) (av := [.ref 72, .int (0 : Int32), .int (σ.1 56 8), .ref 74]) (rest := []) (r := none) (σ' := q1) (T_X9_findKnowers (E := fhEn Γ) (d := fhD Γ - 1) hE (by omega) 72 (0 : Int32) (σ.1 56 8) 74 rfl rfl σ hb1) (by omega) (by decide +kernel) rfl rfl rfl (Nat.le_of_ble_eq_true rfl) rfl ?_
  show fhW fhYF Γ 20 [(0, .ref 56)] [] q1
  refine fhW.blk fhPF fhLL hΓ [(.aload_n 0, 0), (.getfield 12, 0)] (pc' := 24) (lv' := [(0, .ref 56)]) (st' := [.ref 57]) (σ' := q1) (by decide +kernel) rfl rfl rfl ?_
  refine fhW.callv hΓ mvX0_forget ml_4_79 (t := 57) (ci := 0) (av := []) (rest := []) (r := none) (σ' := (f_X0_forget q1)) (T_X0_forget (E := fhEn Γ) (d := fhD Γ - 1) hE (by omega) q1) (by omega) (by decide +kernel) rfl rfl rfl (Nat.le_of_ble_eq_true rfl) rfl ?_
  show fhW fhYF Γ 27 [(0, .ref 56)] [] (f_X0_forget q1)
  obtain ⟨q2, e1, h⟩ := fhlet_elim h
  rw [← e1]
  have e9 := Option.some.inj h
  subst e9
  exact fhW.vret hΓ (by decide +kernel) hk
set_option maxRecDepth 100000 in
theorem T_X4_settle {E : fhE} {d : Nat} (hE : fhEok fhYF E) (hd : 3 ≤ d)   (σ : fhM) {o : fhM} (h : f_X4_settle σ = some o) : fhC fhYF E d miX4_settle [.ref 56] σ none o := by
  refine fhC.of (y := yX4_settle) (cc := cX4_settle) (nL := 1) (ret := none) 4 rfl (by decide +kernel) (Nat.le_of_ble_eq_true rfl) ?_
  intro Γ hΓ hR hD hEn
  subst hD; subst hEn
  exact L_X4_settle_E hE hΓ hd   σ _ h hR
set_option maxRecDepth 100000 in
set_option maxHeartbeats 4000000 in
theorem L_X4_begin_2 {Γ : fhX} (hE : fhEok fhYF (fhEn Γ)) (hΓ : fhOk fhYF 4 cX4_begin 3 none Γ) (hd : 4 ≤ fhD Γ) (v1 : Int32) (v2 : Int32)  (σ : fhM) (o : (Int32 × fhM) ⊕ (fhM)) (h : f_X4_begin_2 v1 v2 σ = some o) (hk : (fhK (fun x => fhW fhYF Γ 2 [(0, .ref 56), (1, .int v1), (2, .int x.1)] [] x.2) (fun o => fhRet Γ none o)) o) : fhW fhYF Γ 2 [(0, .ref 56), (1, .int v1), (2, .int v2)] [] σ := by
  unfold f_X4_begin_2 at h
  refine fhW.blk fhPF fhLL hΓ [(.iload_n 2, 0), (.aload_n 0, 0), (.getfield 42, 0), (.getfield 46, 0)] (pc' := 10) (lv' := [(0, .ref 56), (1, .int v1), (2, .int v2)]) (st' := [.int (σ.1 39 12), .int v2]) (σ' := σ) (by decide +kernel) rfl rfl rfl ?_
  refine fhW.i_ge hΓ (tgt := 38) (show fhbk _ _ (.if_icmp .ge (28)) _ = true by decide +kernel) (fun hc => ?_) (fun hc => ?_)
  · rw [if_pos hc] at h
    refine fhW.blk fhPF fhLL hΓ [(.aload_n 0, 0), (.aload_n 0, 0), (.getfield 42, 0), (.getfield 46, 0), (.putfield 63, 0), (.aload_n 0, 0), (.iconst 0, 0), (.putfield 66, 0), (.aload_n 0, 0), (.iload_n 1, 0), (.putfield 69, 0), (.aload_n 0, 0)] (pc' := 60) (lv' := [(0, .ref 56), (1, .int v1), (2, .int v2)]) (st' := [.ref 56]) (σ' := (fhI (fhI (fhI σ 56 8 (σ.1 39 12)) 56 10 (0 : Int32)) 56 9 v1)) (by decide +kernel) rfl rfl rfl ?_
    obtain ⟨q1, hb1, h⟩ := Option.bind_eq_some_iff.mp h
    refine fhW.callv hΓ mvX4_settle ml_4_72 (t := 56) (ci := 4) (av := []) (rest := []) (r := none) (σ' := q1) (T_X4_settle (E := fhEn Γ) (d := fhD Γ - 1) hE (by omega) (fhI (fhI (fhI σ 56 8 (σ.1 39 12)) 56 10 (0 : Int32)) 56 9 v1) hb1) (by omega) (by decide +kernel) rfl rfl rfl (Nat.le_of_ble_eq_true rfl) rfl ?_
    show fhW fhYF Γ 63 [(0, .ref 56), (1, .int v1), (2, .int v2)] [] q1
    have e9 := Option.some.inj h
    subst e9
    exact fhW.vret hΓ (by decide +kernel) hk
  · rw [if_neg hc] at h
    refine fhW.blk fhPF fhLL hΓ [(.aload_n 0, 0), (.getfield 36, 0), (.iload_n 2, 0), (.aload_n 0, 0), (.getfield 42, 0), (.getfield 52, 0), (.iload_n 2, 0)] (pc' := 26) (lv' := [(0, .ref 56), (1, .int v1), (2, .int v2)]) (st' := [.int v2, .ref 54, .int v2, .ref 72]) (σ' := σ) (by decide +kernel) rfl rfl rfl ?_
    refine fhW.callv hΓ mvX2_get ml_4_55 (t := 54) (ci := 2) (av := [.int v2]) (rest := [.int v2, .ref 72]) (r := (some (.int (fcG σ 54 v2)))) (σ' := σ) (T_X2_get (E := fhEn Γ) (d := fhD Γ - 1) hE (by omega) 54 v2 rfl σ) (by omega) (by decide +kernel) rfl rfl rfl (Nat.le_of_ble_eq_true rfl) rfl ?_
    show fhW fhYF Γ 29 [(0, .ref 56), (1, .int v1), (2, .int v2)] [.int (fcG σ 54 v2), .int v2, .ref 72] σ
    refine fhW.callv hΓ mvX2_put ml_4_59 (t := 72) (ci := 2) (av := [.int v2, .int (fcG σ 54 v2)]) (rest := []) (r := none) (σ' := (fcP σ 72 v2 (fcG σ 54 v2))) (T_X2_put (E := fhEn Γ) (d := fhD Γ - 1) hE (by omega) 72 v2 (fcG σ 54 v2) rfl σ) (by omega) (by decide +kernel) rfl rfl rfl (Nat.le_of_ble_eq_true rfl) rfl ?_
    show fhW fhYF Γ 32 [(0, .ref 56), (1, .int v1), (2, .int v2)] [] (fcP σ 72 v2 (fcG σ 54 v2))
    refine fhW.blk fhPF fhLL hΓ [(.iinc 2 1, 1)] (pc' := 35) (lv' := [(2, .int (v2 + (1 : Int32))), (0, .ref 56), (1, .int v1)]) (st' := []) (σ' := (fcP σ 72 v2 (fcG σ 54 v2))) (by decide +kernel) rfl rfl rfl ?_
    refine fhW.goto hΓ (off := (-33)) (tgt := 2) (by decide +kernel) ?_
    refine fhW.sub (lv' := [(0, .ref 56), (1, .int v1), (2, .int (v2 + (1 : Int32)))]) [1, 2, 0] rfl ?_
    have e9 := Option.some.inj h
    subst e9
    exact hk
set_option maxRecDepth 100000 in
set_option maxHeartbeats 4000000 in
theorem L_X4_begin_E {Γ : fhX} (hE : fhEok fhYF (fhEn Γ)) (hΓ : fhOk fhYF 4 cX4_begin 3 none Γ) (hd : 4 ≤ fhD Γ) (v1 : Int32)  (σ : fhM) (o : fhM) (h : f_X4_begin v1 σ = some o) (hk : (fun o => fhRet Γ none o) o) : fhW fhYF Γ 0 [(0, .ref 56), (1, .int v1)] [] σ := by
  unfold f_X4_begin at h
  refine fhW.blk fhPF fhLL hΓ [(.iconst 0, 0), (.istore_n 2, 0)] (pc' := 2) (lv' := [(2, .int (0 : Int32)), (0, .ref 56), (1, .int v1)]) (st' := []) (σ' := σ) (by decide +kernel) rfl rfl rfl ?_
  refine fhW.sub (lv' := [(0, .ref 56), (1, .int v1), (2, .int (0 : Int32))]) [1, 2, 0] rfl ?_
  exact fhlp_ok (W := (fun x => fhW fhYF Γ 2 [(0, .ref 56), (1, .int v1), (2, .int x.1)] [] x.2)) (B := (fun o => fhRet Γ none o)) (fun x o h hk => L_X4_begin_2 hE hΓ hd v1 x.1 x.2 o h hk) ((0 : Int32), σ) _ h hk
set_option maxRecDepth 100000 in
theorem T_X4_begin {E : fhE} {d : Nat} (hE : fhEok fhYF E) (hd : 4 ≤ d) (v1 : Int32)  (σ : fhM) {o : fhM} (h : f_X4_begin v1 σ = some o) : fhC fhYF E d miX4_begin [.ref 56, .int v1] σ none o := by
  refine fhC.of (y := yX4_begin) (cc := cX4_begin) (nL := 3) (ret := none) 4 rfl (by decide +kernel) (Nat.le_of_ble_eq_true rfl) ?_
  intro Γ hΓ hR hD hEn
  subst hD; subst hEn
  exact L_X4_begin_E hE hΓ hd v1  σ _ h hR
set_option maxRecDepth 100000 in
set_option maxHeartbeats 4000000 in
theorem L_X1_forget_E {Γ : fhX} (hE : fhEok fhYF (fhEn Γ)) (hΓ : fhOk fhYF 1 cX1_forget 1 none Γ) (hd : 0 ≤ fhD Γ)   (σ : fhM) (o : fhM) (h : f_X1_forget σ = o) (hk : (fun o => fhRet Γ none o) o) : fhW fhYF Γ 0 [(0, .ref 76)] [] σ := by
  unfold f_X1_forget at h
  refine fhW.blk fhPF fhLL hΓ [(.aload_n 0, 0), (.iconst 0, 0), (.putfield 45, 0), (.aload_n 0, 0), (.iconst 0, 0), (.putfield 49, 0)] (pc' := 10) (lv' := [(0, .ref 76)]) (st' := []) (σ' := (fhI (fhI σ 76 9 (0 : Int32)) 76 13 (0 : Int32))) (by decide +kernel) rfl rfl rfl ?_
  subst h
  exact fhW.vret hΓ (by decide +kernel) hk
set_option maxRecDepth 100000 in
theorem T_X1_forget {E : fhE} {d : Nat} (hE : fhEok fhYF E) (hd : 0 ≤ d)   (σ : fhM) : fhC fhYF E d miX1_forget [.ref 76] σ none (f_X1_forget σ) := by
  refine fhC.of (y := yX1_forget) (cc := cX1_forget) (nL := 1) (ret := none) 1 rfl (by decide +kernel) (Nat.le_of_ble_eq_true rfl) ?_
  intro Γ hΓ hR hD hEn
  subst hD; subst hEn
  exact L_X1_forget_E hE hΓ hd   σ _ rfl hR
set_option maxRecDepth 100000 in
set_option maxHeartbeats 4000000 in
theorem L_X6_wipe_E {Γ : fhX} (hE : fhEok fhYF (fhEn Γ)) (hΓ : fhOk fhYF 6 cX6_wipe 1 none Γ) (hd : 0 ≤ fhD Γ)   (σ : fhM) (o : fhM) (h : f_X6_wipe σ = o) (hk : (fun o => fhRet Γ none o) o) : fhW fhYF Γ 0 [(0, .ref 93)] [] σ := by
  unfold f_X6_wipe at h
  refine fhW.blk fhPF fhLL hΓ [(.aload_n 0, 0), (.iconst 0, 0), (.putfield 23, 0), (.aload_n 0, 0), (.iconst 0, 0), (.putfield 27, 0), (.aload_n 0, 0), (.iconst 0, 0), (.putfield 30, 0)] (pc' := 15) (lv' := [(0, .ref 93)]) (st' := []) (σ' := (fhI (fhI (fhI σ 93 1 (0 : Int32)) 93 3 (0 : Int32)) 93 4 (0 : Int32))) (by decide +kernel) rfl rfl rfl ?_
  subst h
  exact fhW.vret hΓ (by decide +kernel) hk
set_option maxRecDepth 100000 in
theorem T_X6_wipe {E : fhE} {d : Nat} (hE : fhEok fhYF E) (hd : 0 ≤ d)   (σ : fhM) : fhC fhYF E d miX6_wipe [.ref 93] σ none (f_X6_wipe σ) := by
  refine fhC.of (y := yX6_wipe) (cc := cX6_wipe) (nL := 1) (ret := none) 6 rfl (by decide +kernel) (Nat.le_of_ble_eq_true rfl) ?_
  intro Γ hΓ hR hD hEn
  subst hD; subst hEn
  exact L_X6_wipe_E hE hΓ hd   σ _ rfl hR
set_option maxRecDepth 100000 in
set_option maxHeartbeats 4000000 in
theorem L_X11_fault_E {Γ : fhX} (hE : fhEok fhYF (fhEn Γ)) (hΓ : fhOk fhYF 11 cX11_fault 2 (some .int) Γ) (hd : 0 ≤ fhD Γ) (v1 : Int32)  (σ : fhM) (o : Int32) (h : f_X11_fault v1 σ = o) (hk : (fun o => fhRet Γ (some (.int o)) σ) o) : fhW fhYF Γ 0 [(0, .ref 0), (1, .int v1)] [] σ := by
  unfold f_X11_fault at h
  refine fhW.blk fhPF fhLL hΓ [(.iload_n 1, 0)] (pc' := 1) (lv' := [(0, .ref 0), (1, .int v1)]) (st' := [.int v1]) (σ' := σ) (by decide +kernel) rfl rfl rfl ?_
  refine fhW.lsw hΓ (dflt := 37) (ps := #[(0, 27), (1, 32)]) (len := 27) (td := 38) [(0, 28), (1, 33)] (by decide +kernel) ?_
  refine fhsw_c (fun hc => ?_) (fun hc => ?_)
  · rw [if_pos hc] at h
    refine fhW.blk fhPF fhLL hΓ [(.aload_n 0, 0), (.getfield 157, 0)] (pc' := 32) (lv' := [(0, .ref 0), (1, .int v1)]) (st' := [.int (σ.1 0 17)]) (σ' := σ) (by decide +kernel) rfl rfl rfl ?_
    subst h
    exact fhW.iret hΓ (by decide +kernel) hk
  rw [if_neg hc] at h
  refine fhsw_c (fun hc => ?_) (fun hc => ?_)
  · rw [if_pos hc] at h
    refine fhW.blk fhPF fhLL hΓ [(.aload_n 0, 0), (.getfield 100, 0)] (pc' := 37) (lv' := [(0, .ref 0), (1, .int v1)]) (st' := [.int (σ.1 0 18)]) (σ' := σ) (by decide +kernel) rfl rfl rfl ?_
    subst h
    exact fhW.iret hΓ (by decide +kernel) hk
  rw [if_neg hc] at h
  refine fhsw_n ?_
  refine fhW.blk fhPF fhLL hΓ [(.iconst (-1), -1)] (pc' := 39) (lv' := [(0, .ref 0), (1, .int v1)]) (st' := [.int (-1 : Int32)]) (σ' := σ) (by decide +kernel) rfl rfl rfl ?_
  subst h
  exact fhW.iret hΓ (by decide +kernel) hk
set_option maxRecDepth 100000 in
theorem T_X11_fault {E : fhE} {d : Nat} (hE : fhEok fhYF E) (hd : 0 ≤ d) (v1 : Int32)  (σ : fhM) : fhC fhYF E d miX11_fault [.ref 0, .int v1] σ (some (.int (f_X11_fault v1 σ))) σ := by
  refine fhC.of (y := yX11_fault) (cc := cX11_fault) (nL := 2) (ret := (some .int)) 11 rfl (by decide +kernel) (Nat.le_of_ble_eq_true rfl) ?_
  intro Γ hΓ hR hD hEn
  subst hD; subst hEn
  exact L_X11_fault_E hE hΓ hd v1  σ _ rfl hR
set_option maxRecDepth 100000 in
set_option maxHeartbeats 4000000 in
theorem L_X4_knowers_E {Γ : fhX} (hE : fhEok fhYF (fhEn Γ)) (hΓ : fhOk fhYF 4 cX4_knowers 1 (some .int) Γ) (hd : 1 ≤ fhD Γ)   (σ : fhM) (o : Int32) (h : f_X4_knowers σ = o) (hk : (fun o => fhRet Γ (some (.int o)) σ) o) : fhW fhYF Γ 0 [(0, .ref 56)] [] σ := by
  unfold f_X4_knowers at h
  refine fhW.blk fhPF fhLL hΓ [(.aload_n 0, 0), (.getfield 63, 0)] (pc' := 4) (lv' := [(0, .ref 56)]) (st' := [.int (σ.1 56 8)]) (σ' := σ) (by decide +kernel) rfl rfl rfl ?_
  refine fhW.z_le hΓ (tgt := 21) (show fhbk _ _ (.ifCond .le (17)) _ = true by decide +kernel) (fun hc => ?_) (fun hc => ?_)
  · rw [if_pos hc] at h
    refine fhW.blk fhPF fhLL hΓ [(.iconst 0, 0)] (pc' := 22) (lv' := [(0, .ref 56)]) (st' := [.int (0 : Int32)]) (σ' := σ) (by decide +kernel) rfl rfl rfl ?_
    subst h
    exact fhW.iret hΓ (by decide +kernel) hk
  · rw [if_neg hc] at h
    refine fhW.blk fhPF fhLL hΓ [(.aload_n 0, 0), (.getfield 39, 0), (.aload_n 0, 0), (.getfield 69, 0)] (pc' := 15) (lv' := [(0, .ref 56)]) (st' := [.int (σ.1 56 9), .ref 74]) (σ' := σ) (by decide +kernel) rfl rfl rfl ?_
    refine fhW.callv hΓ mvX2_get ml_4_55 (t := 74) (ci := 2) (av := [.int (σ.1 56 9)]) (rest := []) (r := (some (.int (fcG σ 74 (σ.1 56 9))))) (σ' := σ) (T_X2_get (E := fhEn Γ) (d := fhD Γ - 1) hE (by omega) 74 (σ.1 56 9) rfl σ) (by omega) (by decide +kernel) rfl rfl rfl (Nat.le_of_ble_eq_true rfl) rfl ?_
    show fhW fhYF Γ 18 [(0, .ref 56)] [.int (fcG σ 74 (σ.1 56 9))] σ
    refine fhW.goto hΓ (off := 4) (tgt := 22) (by decide +kernel) ?_
    subst h
    exact fhW.iret hΓ (by decide +kernel) hk
set_option maxRecDepth 100000 in
theorem T_X4_knowers {E : fhE} {d : Nat} (hE : fhEok fhYF E) (hd : 1 ≤ d)   (σ : fhM) : fhC fhYF E d miX4_knowers [.ref 56] σ (some (.int (f_X4_knowers σ))) σ := by
  refine fhC.of (y := yX4_knowers) (cc := cX4_knowers) (nL := 1) (ret := (some .int)) 4 rfl (by decide +kernel) (Nat.le_of_ble_eq_true rfl) ?_
  intro Γ hΓ hR hD hEn
  subst hD; subst hEn
  exact L_X4_knowers_E hE hΓ hd   σ _ rfl hR
set_option maxRecDepth 100000 in
set_option maxHeartbeats 4000000 in
theorem L_X6_toldCount_E {Γ : fhX} (hE : fhEok fhYF (fhEn Γ)) (hΓ : fhOk fhYF 6 cX6_toldCount 1 (some .int) Γ) (hd : 1 ≤ fhD Γ)   (σ : fhM) (o : Int32) (h : f_X6_toldCount σ = o) (hk : (fun o => fhRet Γ (some (.int o)) σ) o) : fhW fhYF Γ 0 [(0, .ref 93)] [] σ := by
  unfold f_X6_toldCount at h
  refine fhW.blk fhPF fhLL hΓ [(.aload_n 0, 0), (.getfield 23, 0), (.bipush 40, 40)] (pc' := 6) (lv' := [(0, .ref 93)]) (st' := [.int (40 : Int32), .int (σ.1 93 1)]) (σ' := σ) (by decide +kernel) rfl rfl rfl ?_
  refine fhW.calls hΓ msJ9_min_7cf53 ml_6_37 (av := [.int (σ.1 93 1), .int (40 : Int32)]) (rest := []) (r := (some (.int (f_J9_min_7cf53 (σ.1 93 1) (40 : Int32) σ)))) (σ' := σ) (T_J9_min_7cf53 (E := fhEn Γ) (d := fhD Γ - 1) hE (by omega) (σ.1 93 1) (40 : Int32) σ) (by omega) (by decide +kernel) rfl (Nat.le_of_ble_eq_true rfl) rfl ?_
  show fhW fhYF Γ 9 [(0, .ref 93)] [.int (f_J9_min_7cf53 (σ.1 93 1) (40 : Int32) σ)] σ
  subst h
  exact fhW.iret hΓ (by decide +kernel) hk
set_option maxRecDepth 100000 in
theorem T_X6_toldCount {E : fhE} {d : Nat} (hE : fhEok fhYF E) (hd : 1 ≤ d)   (σ : fhM) : fhC fhYF E d miX6_toldCount [.ref 93] σ (some (.int (f_X6_toldCount σ))) σ := by
  refine fhC.of (y := yX6_toldCount) (cc := cX6_toldCount) (nL := 1) (ret := (some .int)) 6 rfl (by decide +kernel) (Nat.le_of_ble_eq_true rfl) ?_
  intro Γ hΓ hR hD hEn
  subst hD; subst hEn
  exact L_X6_toldCount_E hE hΓ hd   σ _ rfl hR
set_option maxRecDepth 100000 in
set_option maxHeartbeats 4000000 in
theorem L_X11_has_E {Γ : fhX} (hE : fhEok fhYF (fhEn Γ)) (hΓ : fhOk fhYF 11 cX11_has 2 (some .int) Γ) (hd : 2 ≤ fhD Γ) (v1 : Int32)  (σ : fhM) (o : Int32) (h : f_X11_has v1 σ = some o) (hk : (fun o => fhRet Γ (some (.int o)) σ) o) : fhW fhYF Γ 0 [(0, .ref 0), (1, .int v1)] [] σ := by
  unfold f_X11_has at h
  refine fhW.blk fhPF fhLL hΓ [(.iload_n 1, 0)] (pc' := 1) (lv' := [(0, .ref 0), (1, .int v1)]) (st' := [.int v1]) (σ' := σ) (by decide +kernel) rfl rfl rfl ?_
  refine fhW.tsw hΓ (dflt := 150) (lo := 0) (hi := 10) (offs := #[59, 67, 75, 83, 91, 99, 107, 115, 126, 134, 142]) (len := 59) (td := 151) [(0, 60), (1, 68), (2, 76), (3, 84), (4, 92), (5, 100), (6, 108), (7, 116), (8, 127), (9, 135), (10, 143)] (by decide +kernel) ?_
  refine fhsw_c (fun hc => ?_) (fun hc => ?_)
  · rw [if_pos hc] at h
    obtain ⟨hy1, h⟩ := fhif h
    refine fhW.blk fhPF fhLL hΓ [(.aload_n 0, 0), (.getfield 53, 0), (.getfield 163, 0)] (pc' := 67) (lv' := [(0, .ref 0), (1, .int v1)]) (st' := [.int (σ.1 (σ.2.2 0 6) 9)]) (σ' := σ) (by decide +kernel) rfl rfl (by have hq := hy1; generalize (σ.2.2 0 6) = qq at hq ⊢; rcases fhiP_or hq with rfl | rfl <;> rfl) ?_
    have e9 := Option.some.inj h
    subst e9
    exact fhW.iret hΓ (by decide +kernel) hk
  rw [if_neg hc] at h
  refine fhsw_c (fun hc => ?_) (fun hc => ?_)
  · rw [if_pos hc] at h
    refine fhW.blk fhPF fhLL hΓ [(.aload_n 0, 0), (.getfield 63, 0), (.getfield 166, 0)] (pc' := 75) (lv' := [(0, .ref 0), (1, .int v1)]) (st' := [.int (σ.1 39 9)]) (σ' := σ) (by decide +kernel) rfl rfl rfl ?_
    have e9 := Option.some.inj h
    subst e9
    exact fhW.iret hΓ (by decide +kernel) hk
  rw [if_neg hc] at h
  refine fhsw_c (fun hc => ?_) (fun hc => ?_)
  · rw [if_pos hc] at h
    obtain ⟨hy2, h⟩ := fhif h
    refine fhW.blk fhPF fhLL hΓ [(.aload_n 0, 0), (.getfield 53, 0), (.getfield 169, 0)] (pc' := 83) (lv' := [(0, .ref 0), (1, .int v1)]) (st' := [.int (σ.1 (σ.2.2 0 6) 11)]) (σ' := σ) (by decide +kernel) rfl rfl (by have hq := hy2; generalize (σ.2.2 0 6) = qq at hq ⊢; rcases fhiP_or hq with rfl | rfl <;> rfl) ?_
    have e9 := Option.some.inj h
    subst e9
    exact fhW.iret hΓ (by decide +kernel) hk
  rw [if_neg hc] at h
  refine fhsw_c (fun hc => ?_) (fun hc => ?_)
  · rw [if_pos hc] at h
    refine fhW.blk fhPF fhLL hΓ [(.aload_n 0, 0), (.getfield 63, 0), (.getfield 172, 0)] (pc' := 91) (lv' := [(0, .ref 0), (1, .int v1)]) (st' := [.int (σ.1 39 10)]) (σ' := σ) (by decide +kernel) rfl rfl rfl ?_
    have e9 := Option.some.inj h
    subst e9
    exact fhW.iret hΓ (by decide +kernel) hk
  rw [if_neg hc] at h
  refine fhsw_c (fun hc => ?_) (fun hc => ?_)
  · rw [if_pos hc] at h
    refine fhW.blk fhPF fhLL hΓ [(.aload_n 0, 0), (.getfield 72, 0), (.getfield 175, 0)] (pc' := 99) (lv' := [(0, .ref 0), (1, .int v1)]) (st' := [.int (σ.1 56 10)]) (σ' := σ) (by decide +kernel) rfl rfl rfl ?_
    have e9 := Option.some.inj h
    subst e9
    exact fhW.iret hΓ (by decide +kernel) hk
  rw [if_neg hc] at h
  refine fhsw_c (fun hc => ?_) (fun hc => ?_)
  · rw [if_pos hc] at h
    refine fhW.blk fhPF fhLL hΓ [(.aload_n 0, 0), (.getfield 72, 0), (.getfield 178, 0)] (pc' := 107) (lv' := [(0, .ref 0), (1, .int v1)]) (st' := [.int (σ.1 56 8)]) (σ' := σ) (by decide +kernel) rfl rfl rfl ?_
    have e9 := Option.some.inj h
    subst e9
    exact fhW.iret hΓ (by decide +kernel) hk
  rw [if_neg hc] at h
  refine fhsw_c (fun hc => ?_) (fun hc => ?_)
  · rw [if_pos hc] at h
    refine fhW.blk fhPF fhLL hΓ [(.aload_n 0, 0), (.getfield 63, 0), (.getfield 181, 0)] (pc' := 115) (lv' := [(0, .ref 0), (1, .int v1)]) (st' := [.int (σ.1 39 12)]) (σ' := σ) (by decide +kernel) rfl rfl rfl ?_
    have e9 := Option.some.inj h
    subst e9
    exact fhW.iret hΓ (by decide +kernel) hk
  rw [if_neg hc] at h
  refine fhsw_c (fun hc => ?_) (fun hc => ?_)
  · rw [if_pos hc] at h
    refine fhW.blk fhPF fhLL hΓ [(.aload_n 0, 0), (.getfield 72, 0)] (pc' := 120) (lv' := [(0, .ref 0), (1, .int v1)]) (st' := [.ref 56]) (σ' := σ) (by decide +kernel) rfl rfl rfl ?_
    refine fhW.callv hΓ mvX4_knowers ml_11_184 (t := 56) (ci := 4) (av := []) (rest := []) (r := (some (.int (f_X4_knowers σ)))) (σ' := σ) (T_X4_knowers (E := fhEn Γ) (d := fhD Γ - 1) hE (by omega) σ) (by omega) (by decide +kernel) rfl rfl rfl (Nat.le_of_ble_eq_true rfl) rfl ?_
    show fhW fhYF Γ 123 [(0, .ref 0), (1, .int v1)] [.int (f_X4_knowers σ)] σ
    refine fhW.calls hΓ msJ6_bitCount_0f7a4 ml_11_187 (av := [.int (f_X4_knowers σ)]) (rest := []) (r := (some (.int (f_J6_bitCount_0f7a4 (f_X4_knowers σ) σ)))) (σ' := σ) (T_J6_bitCount_0f7a4 (E := fhEn Γ) (d := fhD Γ - 1) hE (by omega) (f_X4_knowers σ) σ) (by omega) (by decide +kernel) rfl (Nat.le_of_ble_eq_true rfl) rfl ?_
    show fhW fhYF Γ 126 [(0, .ref 0), (1, .int v1)] [.int (f_J6_bitCount_0f7a4 (f_X4_knowers σ) σ)] σ
    have e9 := Option.some.inj h
    subst e9
    exact fhW.iret hΓ (by decide +kernel) hk
  rw [if_neg hc] at h
  refine fhsw_c (fun hc => ?_) (fun hc => ?_)
  · rw [if_pos hc] at h
    refine fhW.blk fhPF fhLL hΓ [(.aload_n 0, 0), (.getfield 86, 0)] (pc' := 131) (lv' := [(0, .ref 0), (1, .int v1)]) (st' := [.ref 93]) (σ' := σ) (by decide +kernel) rfl rfl rfl ?_
    refine fhW.callv hΓ mvX6_toldCount ml_11_192 (t := 93) (ci := 6) (av := []) (rest := []) (r := (some (.int (f_X6_toldCount σ)))) (σ' := σ) (T_X6_toldCount (E := fhEn Γ) (d := fhD Γ - 1) hE (by omega) σ) (by omega) (by decide +kernel) rfl rfl rfl (Nat.le_of_ble_eq_true rfl) rfl ?_
    show fhW fhYF Γ 134 [(0, .ref 0), (1, .int v1)] [.int (f_X6_toldCount σ)] σ
    have e9 := Option.some.inj h
    subst e9
    exact fhW.iret hΓ (by decide +kernel) hk
  rw [if_neg hc] at h
  refine fhsw_c (fun hc => ?_) (fun hc => ?_)
  · rw [if_pos hc] at h
    refine fhW.blk fhPF fhLL hΓ [(.aload_n 0, 0), (.getfield 79, 0), (.getfield 195, 0)] (pc' := 142) (lv' := [(0, .ref 0), (1, .int v1)]) (st' := [.int (σ.1 76 13)]) (σ' := σ) (by decide +kernel) rfl rfl rfl ?_
    have e9 := Option.some.inj h
    subst e9
    exact fhW.iret hΓ (by decide +kernel) hk
  rw [if_neg hc] at h
  refine fhsw_c (fun hc => ?_) (fun hc => ?_)
  · rw [if_pos hc] at h
    refine fhW.blk fhPF fhLL hΓ [(.aload_n 0, 0), (.getfield 86, 0), (.getfield 198, 0)] (pc' := 150) (lv' := [(0, .ref 0), (1, .int v1)]) (st' := [.int (σ.1 93 4)]) (σ' := σ) (by decide +kernel) rfl rfl rfl ?_
    have e9 := Option.some.inj h
    subst e9
    exact fhW.iret hΓ (by decide +kernel) hk
  rw [if_neg hc] at h
  refine fhsw_n ?_
  refine fhW.blk fhPF fhLL hΓ [(.iconst (-1), -1)] (pc' := 152) (lv' := [(0, .ref 0), (1, .int v1)]) (st' := [.int (-1 : Int32)]) (σ' := σ) (by decide +kernel) rfl rfl rfl ?_
  have e9 := Option.some.inj h
  subst e9
  exact fhW.iret hΓ (by decide +kernel) hk
set_option maxRecDepth 100000 in
theorem T_X11_has {E : fhE} {d : Nat} (hE : fhEok fhYF E) (hd : 2 ≤ d) (v1 : Int32)  (σ : fhM) {o : Int32} (h : f_X11_has v1 σ = some o) : fhC fhYF E d miX11_has [.ref 0, .int v1] σ (some (.int o)) σ := by
  refine fhC.of (y := yX11_has) (cc := cX11_has) (nL := 2) (ret := (some .int)) 11 rfl (by decide +kernel) (Nat.le_of_ble_eq_true rfl) ?_
  intro Γ hΓ hR hD hEn
  subst hD; subst hEn
  exact L_X11_has_E hE hΓ hd v1  σ _ h hR
set_option maxRecDepth 100000 in
set_option maxHeartbeats 4000000 in
theorem L_X11_isGuest_E {Γ : fhX} (hE : fhEok fhYF (fhEn Γ)) (hΓ : fhOk fhYF 11 cX11_isGuest 2 (some .boolean) Γ) (hd : 0 ≤ fhD Γ) (v1 : Int32)  (σ : fhM) (o : Bool) (h : f_X11_isGuest v1 σ = o) (hk : (fun o => fhRet Γ (some (.int (fhb o))) σ) o) : fhW fhYF Γ 0 [(0, .ref 0), (1, .int v1)] [] σ := by
  unfold f_X11_isGuest at h
  refine fhW.blk fhPF fhLL hΓ [(.iload_n 1, 0)] (pc' := 1) (lv' := [(0, .ref 0), (1, .int v1)]) (st' := [.int v1]) (σ' := σ) (by decide +kernel) rfl rfl rfl ?_
  refine fhW.z_lt hΓ (tgt := 19) (show fhbk _ _ (.ifCond .lt (18)) _ = true by decide +kernel) (fun hc => ?_) (fun hc => ?_)
  · rw [if_pos hc] at h
    refine fhW.blk fhPF fhLL hΓ [(.iconst 0, 0)] (pc' := 20) (lv' := [(0, .ref 0), (1, .int v1)]) (st' := [.int (0 : Int32)]) (σ' := σ) (by decide +kernel) rfl rfl rfl ?_
    subst h
    exact fhW.zret (v := false) hΓ (by decide +kernel) hk
  · rw [if_neg hc] at h
    refine fhW.blk fhPF fhLL hΓ [(.iload_n 1, 0), (.aload_n 0, 0), (.getfield 63, 0), (.getfield 166, 0)] (pc' := 12) (lv' := [(0, .ref 0), (1, .int v1)]) (st' := [.int (σ.1 39 9), .int v1]) (σ' := σ) (by decide +kernel) rfl rfl rfl ?_
    refine fhW.i_ge hΓ (tgt := 19) (show fhbk _ _ (.if_icmp .ge (7)) _ = true by decide +kernel) (fun hc => ?_) (fun hc => ?_)
    · rw [if_pos hc] at h
      refine fhW.blk fhPF fhLL hΓ [(.iconst 0, 0)] (pc' := 20) (lv' := [(0, .ref 0), (1, .int v1)]) (st' := [.int (0 : Int32)]) (σ' := σ) (by decide +kernel) rfl rfl rfl ?_
      subst h
      exact fhW.zret (v := false) hΓ (by decide +kernel) hk
    · rw [if_neg hc] at h
      refine fhW.blk fhPF fhLL hΓ [(.iconst 1, 1)] (pc' := 16) (lv' := [(0, .ref 0), (1, .int v1)]) (st' := [.int (1 : Int32)]) (σ' := σ) (by decide +kernel) rfl rfl rfl ?_
      refine fhW.goto hΓ (off := 4) (tgt := 20) (by decide +kernel) ?_
      subst h
      exact fhW.zret (v := true) hΓ (by decide +kernel) hk
set_option maxRecDepth 100000 in
theorem T_X11_isGuest {E : fhE} {d : Nat} (hE : fhEok fhYF E) (hd : 0 ≤ d) (v1 : Int32)  (σ : fhM) : fhC fhYF E d miX11_isGuest [.ref 0, .int v1] σ (some (.int (fhb (f_X11_isGuest v1 σ)))) σ := by
  refine fhC.of (y := yX11_isGuest) (cc := cX11_isGuest) (nL := 2) (ret := (some .boolean)) 11 rfl (by decide +kernel) (Nat.le_of_ble_eq_true rfl) ?_
  intro Γ hΓ hR hD hEn
  subst hD; subst hEn
  exact L_X11_isGuest_E hE hΓ hd v1  σ _ rfl hR
set_option maxRecDepth 100000 in
set_option maxHeartbeats 4000000 in
theorem L_X11_isFact_E {Γ : fhX} (hE : fhEok fhYF (fhEn Γ)) (hΓ : fhOk fhYF 11 cX11_isFact 2 (some .boolean) Γ) (hd : 0 ≤ fhD Γ) (v1 : Int32)  (σ : fhM) (o : Bool) (h : f_X11_isFact v1 σ = o) (hk : (fun o => fhRet Γ (some (.int (fhb o))) σ) o) : fhW fhYF Γ 0 [(0, .ref 0), (1, .int v1)] [] σ := by
  unfold f_X11_isFact at h
  refine fhW.blk fhPF fhLL hΓ [(.iload_n 1, 0)] (pc' := 1) (lv' := [(0, .ref 0), (1, .int v1)]) (st' := [.int v1]) (σ' := σ) (by decide +kernel) rfl rfl rfl ?_
  refine fhW.z_lt hΓ (tgt := 19) (show fhbk _ _ (.ifCond .lt (18)) _ = true by decide +kernel) (fun hc => ?_) (fun hc => ?_)
  · rw [if_pos hc] at h
    refine fhW.blk fhPF fhLL hΓ [(.iconst 0, 0)] (pc' := 20) (lv' := [(0, .ref 0), (1, .int v1)]) (st' := [.int (0 : Int32)]) (σ' := σ) (by decide +kernel) rfl rfl rfl ?_
    subst h
    exact fhW.zret (v := false) hΓ (by decide +kernel) hk
  · rw [if_neg hc] at h
    refine fhW.blk fhPF fhLL hΓ [(.iload_n 1, 0), (.aload_n 0, 0), (.getfield 63, 0), (.getfield 172, 0)] (pc' := 12) (lv' := [(0, .ref 0), (1, .int v1)]) (st' := [.int (σ.1 39 10), .int v1]) (σ' := σ) (by decide +kernel) rfl rfl rfl ?_
    refine fhW.i_ge hΓ (tgt := 19) (show fhbk _ _ (.if_icmp .ge (7)) _ = true by decide +kernel) (fun hc => ?_) (fun hc => ?_)
    · rw [if_pos hc] at h
      refine fhW.blk fhPF fhLL hΓ [(.iconst 0, 0)] (pc' := 20) (lv' := [(0, .ref 0), (1, .int v1)]) (st' := [.int (0 : Int32)]) (σ' := σ) (by decide +kernel) rfl rfl rfl ?_
      subst h
      exact fhW.zret (v := false) hΓ (by decide +kernel) hk
    · rw [if_neg hc] at h
      refine fhW.blk fhPF fhLL hΓ [(.iconst 1, 1)] (pc' := 16) (lv' := [(0, .ref 0), (1, .int v1)]) (st' := [.int (1 : Int32)]) (σ' := σ) (by decide +kernel) rfl rfl rfl ?_
      refine fhW.goto hΓ (off := 4) (tgt := 20) (by decide +kernel) ?_
      subst h
      exact fhW.zret (v := true) hΓ (by decide +kernel) hk
set_option maxRecDepth 100000 in
theorem T_X11_isFact {E : fhE} {d : Nat} (hE : fhEok fhYF E) (hd : 0 ≤ d) (v1 : Int32)  (σ : fhM) : fhC fhYF E d miX11_isFact [.ref 0, .int v1] σ (some (.int (fhb (f_X11_isFact v1 σ)))) σ := by
  refine fhC.of (y := yX11_isFact) (cc := cX11_isFact) (nL := 2) (ret := (some .boolean)) 11 rfl (by decide +kernel) (Nat.le_of_ble_eq_true rfl) ?_
  intro Γ hΓ hR hD hEn
  subst hD; subst hEn
  exact L_X11_isFact_E hE hΓ hd v1  σ _ rfl hR
set_option maxRecDepth 100000 in
set_option maxHeartbeats 4000000 in
theorem L_X11_isPair_E {Γ : fhX} (hE : fhEok fhYF (fhEn Γ)) (hΓ : fhOk fhYF 11 cX11_isPair 3 (some .boolean) Γ) (hd : 1 ≤ fhD Γ) (v1 : Int32) (v2 : Int32)  (σ : fhM) (o : Bool) (h : f_X11_isPair v1 v2 σ = o) (hk : (fun o => fhRet Γ (some (.int (fhb o))) σ) o) : fhW fhYF Γ 0 [(0, .ref 0), (1, .int v1), (2, .int v2)] [] σ := by
  unfold f_X11_isPair at h
  refine fhW.blk fhPF fhLL hΓ [(.aload_n 0, 0), (.iload_n 1, 0)] (pc' := 2) (lv' := [(0, .ref 0), (1, .int v1), (2, .int v2)]) (st' := [.int v1, .ref 0]) (σ' := σ) (by decide +kernel) rfl rfl rfl ?_
  refine fhW.callv hΓ mvX11_isGuest ml_11_201 (t := 0) (ci := 11) (av := [.int v1]) (rest := []) (r := (some (.int (fhb (f_X11_isGuest v1 σ))))) (σ' := σ) (T_X11_isGuest (E := fhEn Γ) (d := fhD Γ - 1) hE (by omega) v1 σ) (by omega) (by decide +kernel) rfl rfl rfl (Nat.le_of_ble_eq_true rfl) rfl ?_
  show fhW fhYF Γ 5 [(0, .ref 0), (1, .int v1), (2, .int v2)] [.int (fhb (f_X11_isGuest v1 σ))] σ
  refine fhW.b_eq hΓ (tgt := 25) (show fhbk _ _ (.ifCond .eq (20)) _ = true by decide +kernel) (fun hc => ?_) (fun hc => ?_)
  · rw [if_neg hc] at h
    refine fhW.blk fhPF fhLL hΓ [(.iconst 0, 0)] (pc' := 26) (lv' := [(0, .ref 0), (1, .int v1), (2, .int v2)]) (st' := [.int (0 : Int32)]) (σ' := σ) (by decide +kernel) rfl rfl rfl ?_
    subst h
    exact fhW.zret (v := false) hΓ (by decide +kernel) hk
  · rw [if_pos hc] at h
    refine fhW.blk fhPF fhLL hΓ [(.aload_n 0, 0), (.iload_n 2, 0)] (pc' := 10) (lv' := [(0, .ref 0), (1, .int v1), (2, .int v2)]) (st' := [.int v2, .ref 0]) (σ' := σ) (by decide +kernel) rfl rfl rfl ?_
    refine fhW.callv hΓ mvX11_isGuest ml_11_201 (t := 0) (ci := 11) (av := [.int v2]) (rest := []) (r := (some (.int (fhb (f_X11_isGuest v2 σ))))) (σ' := σ) (T_X11_isGuest (E := fhEn Γ) (d := fhD Γ - 1) hE (by omega) v2 σ) (by omega) (by decide +kernel) rfl rfl rfl (Nat.le_of_ble_eq_true rfl) rfl ?_
    show fhW fhYF Γ 13 [(0, .ref 0), (1, .int v1), (2, .int v2)] [.int (fhb (f_X11_isGuest v2 σ))] σ
    refine fhW.b_eq hΓ (tgt := 25) (show fhbk _ _ (.ifCond .eq (12)) _ = true by decide +kernel) (fun hc => ?_) (fun hc => ?_)
    · rw [if_neg hc] at h
      refine fhW.blk fhPF fhLL hΓ [(.iconst 0, 0)] (pc' := 26) (lv' := [(0, .ref 0), (1, .int v1), (2, .int v2)]) (st' := [.int (0 : Int32)]) (σ' := σ) (by decide +kernel) rfl rfl rfl ?_
      subst h
      exact fhW.zret (v := false) hΓ (by decide +kernel) hk
    · rw [if_pos hc] at h
      refine fhW.blk fhPF fhLL hΓ [(.iload_n 1, 0), (.iload_n 2, 0)] (pc' := 18) (lv' := [(0, .ref 0), (1, .int v1), (2, .int v2)]) (st' := [.int v2, .int v1]) (σ' := σ) (by decide +kernel) rfl rfl rfl ?_
      refine fhW.i_eq hΓ (tgt := 25) (show fhbk _ _ (.if_icmp .eq (7)) _ = true by decide +kernel) (fun hc => ?_) (fun hc => ?_)
      · rw [if_pos hc] at h
        refine fhW.blk fhPF fhLL hΓ [(.iconst 0, 0)] (pc' := 26) (lv' := [(0, .ref 0), (1, .int v1), (2, .int v2)]) (st' := [.int (0 : Int32)]) (σ' := σ) (by decide +kernel) rfl rfl rfl ?_
        subst h
        exact fhW.zret (v := false) hΓ (by decide +kernel) hk
      · rw [if_neg hc] at h
        refine fhW.blk fhPF fhLL hΓ [(.iconst 1, 1)] (pc' := 22) (lv' := [(0, .ref 0), (1, .int v1), (2, .int v2)]) (st' := [.int (1 : Int32)]) (σ' := σ) (by decide +kernel) rfl rfl rfl ?_
        refine fhW.goto hΓ (off := 4) (tgt := 26) (by decide +kernel) ?_
        subst h
        exact fhW.zret (v := true) hΓ (by decide +kernel) hk
set_option maxRecDepth 100000 in
theorem T_X11_isPair {E : fhE} {d : Nat} (hE : fhEok fhYF E) (hd : 1 ≤ d) (v1 : Int32) (v2 : Int32)  (σ : fhM) : fhC fhYF E d miX11_isPair [.ref 0, .int v1, .int v2] σ (some (.int (fhb (f_X11_isPair v1 v2 σ)))) σ := by
  refine fhC.of (y := yX11_isPair) (cc := cX11_isPair) (nL := 3) (ret := (some .boolean)) 11 rfl (by decide +kernel) (Nat.le_of_ble_eq_true rfl) ?_
  intro Γ hΓ hR hD hEn
  subst hD; subst hEn
  exact L_X11_isPair_E hE hΓ hd v1 v2  σ _ rfl hR
set_option maxRecDepth 100000 in
set_option maxHeartbeats 4000000 in
theorem L_X11_one_E {Γ : fhX} (hE : fhEok fhYF (fhEn Γ)) (hΓ : fhOk fhYF 11 cX11_one 1 (some .int) Γ) (hd : 0 ≤ fhD Γ) (v0 : Int32)  (σ : fhM) (o : Int32) (h : f_X11_one v0 σ = o) (hk : (fun o => fhRet Γ (some (.int o)) σ) o) : fhW fhYF Γ 0 [(0, .int v0)] [] σ := by
  unfold f_X11_one at h
  refine fhW.blk fhPF fhLL hΓ [(.iload_n 0, 0)] (pc' := 1) (lv' := [(0, .int v0)]) (st' := [.int v0]) (σ' := σ) (by decide +kernel) rfl rfl rfl ?_
  refine fhW.z_eq hΓ (tgt := 8) (show fhbk _ _ (.ifCond .eq (7)) _ = true by decide +kernel) (fun hc => ?_) (fun hc => ?_)
  · rw [if_pos hc] at h
    refine fhW.blk fhPF fhLL hΓ [(.iconst 0, 0)] (pc' := 9) (lv' := [(0, .int v0)]) (st' := [.int (0 : Int32)]) (σ' := σ) (by decide +kernel) rfl rfl rfl ?_
    subst h
    exact fhW.iret hΓ (by decide +kernel) hk
  · rw [if_neg hc] at h
    refine fhW.blk fhPF fhLL hΓ [(.iconst 1, 1)] (pc' := 5) (lv' := [(0, .int v0)]) (st' := [.int (1 : Int32)]) (σ' := σ) (by decide +kernel) rfl rfl rfl ?_
    refine fhW.goto hΓ (off := 4) (tgt := 9) (by decide +kernel) ?_
    subst h
    exact fhW.iret hΓ (by decide +kernel) hk
set_option maxRecDepth 100000 in
theorem T_X11_one {E : fhE} {d : Nat} (hE : fhEok fhYF E) (hd : 0 ≤ d) (v0 : Int32)  (σ : fhM) : fhC fhYF E d miX11_one [.int v0] σ (some (.int (f_X11_one v0 σ))) σ := by
  refine fhC.of (y := yX11_one) (cc := cX11_one) (nL := 1) (ret := (some .int)) 11 rfl (by decide +kernel) (Nat.le_of_ble_eq_true rfl) ?_
  intro Γ hΓ hR hD hEn
  subst hD; subst hEn
  exact L_X11_one_E hE hΓ hd v0  σ _ rfl hR
set_option maxRecDepth 100000 in
set_option maxHeartbeats 4000000 in
theorem L_X11_letter_E {Γ : fhX} (hE : fhEok fhYF (fhEn Γ)) (hΓ : fhOk fhYF 11 cX11_letter 3 (some .int) Γ) (hd : 1 ≤ fhD Γ) (v1 : Int32) (v2 : Int32)  (σ : fhM) (o : Int32) (h : f_X11_letter v1 v2 σ = some o) (hk : (fun o => fhRet Γ (some (.int o)) σ) o) : fhW fhYF Γ 0 [(0, .ref 0), (1, .int v1), (2, .int v2)] [] σ := by
  unfold f_X11_letter at h
  refine fhW.blk fhPF fhLL hΓ [(.aload_n 0, 0), (.iload_n 1, 0)] (pc' := 2) (lv' := [(0, .ref 0), (1, .int v1), (2, .int v2)]) (st' := [.int v1, .ref 0]) (σ' := σ) (by decide +kernel) rfl rfl rfl ?_
  refine fhW.callv hΓ mvX11_isGuest ml_11_201 (t := 0) (ci := 11) (av := [.int v1]) (rest := []) (r := (some (.int (fhb (f_X11_isGuest v1 σ))))) (σ' := σ) (T_X11_isGuest (E := fhEn Γ) (d := fhD Γ - 1) hE (by omega) v1 σ) (by omega) (by decide +kernel) rfl rfl rfl (Nat.le_of_ble_eq_true rfl) rfl ?_
  show fhW fhYF Γ 5 [(0, .ref 0), (1, .int v1), (2, .int v2)] [.int (fhb (f_X11_isGuest v1 σ))] σ
  refine fhW.b_eq hΓ (tgt := 18) (show fhbk _ _ (.ifCond .eq (13)) _ = true by decide +kernel) (fun hc => ?_) (fun hc => ?_)
  · rw [if_neg hc] at h
    refine fhW.blk fhPF fhLL hΓ [(.iconst (-1), -1)] (pc' := 19) (lv' := [(0, .ref 0), (1, .int v1), (2, .int v2)]) (st' := [.int (-1 : Int32)]) (σ' := σ) (by decide +kernel) rfl rfl rfl ?_
    have e9 := Option.some.inj h
    subst e9
    exact fhW.iret hΓ (by decide +kernel) hk
  · rw [if_pos hc] at h
    refine fhW.blk fhPF fhLL hΓ [(.iload_n 2, 0)] (pc' := 9) (lv' := [(0, .ref 0), (1, .int v1), (2, .int v2)]) (st' := [.int v2]) (σ' := σ) (by decide +kernel) rfl rfl rfl ?_
    refine fhW.z_lt hΓ (tgt := 18) (show fhbk _ _ (.ifCond .lt (9)) _ = true by decide +kernel) (fun hc => ?_) (fun hc => ?_)
    · rw [if_pos hc] at h
      refine fhW.blk fhPF fhLL hΓ [(.iconst (-1), -1)] (pc' := 19) (lv' := [(0, .ref 0), (1, .int v1), (2, .int v2)]) (st' := [.int (-1 : Int32)]) (σ' := σ) (by decide +kernel) rfl rfl rfl ?_
      have e9 := Option.some.inj h
      subst e9
      exact fhW.iret hΓ (by decide +kernel) hk
    · rw [if_neg hc] at h
      refine fhW.blk fhPF fhLL hΓ [(.iload_n 2, 0), (.bipush 6, 6)] (pc' := 15) (lv' := [(0, .ref 0), (1, .int v1), (2, .int v2)]) (st' := [.int (6 : Int32), .int v2]) (σ' := σ) (by decide +kernel) rfl rfl rfl ?_
      refine fhW.i_lt hΓ (tgt := 20) (show fhbk _ _ (.if_icmp .lt (5)) _ = true by decide +kernel) (fun hc => ?_) (fun hc => ?_)
      · rw [if_pos hc] at h
        obtain ⟨hy1, h⟩ := fhif h
        refine fhW.blk fhPF fhLL hΓ [(.aload_n 0, 0), (.getfield 53, 0), (.getfield 205, 0), (.iload_n 1, 0)] (pc' := 28) (lv' := [(0, .ref 0), (1, .int v1), (2, .int v2)]) (st' := [.int v1, .ref ((σ.2.2 0 6) + 10)]) (σ' := σ) (by decide +kernel) rfl rfl (by have hq := hy1; generalize (σ.2.2 0 6) = qq at hq ⊢; rcases fhiP_or hq with rfl | rfl <;> rfl) ?_
        refine fhW.callv hΓ mvX2_get ml_11_117 (t := ((σ.2.2 0 6) + 10)) (ci := 2) (av := [.int v1]) (rest := []) (r := (some (.int (fcG σ ((σ.2.2 0 6) + 10) v1)))) (σ' := σ) (T_X2_get (E := fhEn Γ) (d := fhD Γ - 1) hE (by omega) ((σ.2.2 0 6) + 10) v1 (fhiP_ind (p := fun q => fhiC (q + 10) = true) hy1 rfl rfl) σ) (by omega) (by decide +kernel) rfl (fhiC_g (fhiP_ind (p := fun q => fhiC (q + 10) = true) hy1 rfl rfl)) rfl (Nat.le_of_ble_eq_true rfl) rfl ?_
        show fhW fhYF Γ 31 [(0, .ref 0), (1, .int v1), (2, .int v2)] [.int (fcG σ ((σ.2.2 0 6) + 10) v1)] σ
        refine fhW.blk fhPF fhLL hΓ [(.iconst 5, 5), (.iload_n 2, 0), (.imul, 0), (.ishr, 0), (.bipush 31, 31), (.iand, 0)] (pc' := 38) (lv' := [(0, .ref 0), (1, .int v1), (2, .int v2)]) (st' := [.int (((fcG σ ((σ.2.2 0 6) + 10) v1) >>> (((5 : Int32) * v2) &&& 31)) &&& (31 : Int32))]) (σ' := σ) (by decide +kernel) rfl rfl rfl ?_
        have e9 := Option.some.inj h
        subst e9
        exact fhW.iret hΓ (by decide +kernel) hk
      · rw [if_neg hc] at h
        refine fhW.blk fhPF fhLL hΓ [(.iconst (-1), -1)] (pc' := 19) (lv' := [(0, .ref 0), (1, .int v1), (2, .int v2)]) (st' := [.int (-1 : Int32)]) (σ' := σ) (by decide +kernel) rfl rfl rfl ?_
        have e9 := Option.some.inj h
        subst e9
        exact fhW.iret hΓ (by decide +kernel) hk
set_option maxRecDepth 100000 in
theorem T_X11_letter {E : fhE} {d : Nat} (hE : fhEok fhYF E) (hd : 1 ≤ d) (v1 : Int32) (v2 : Int32)  (σ : fhM) {o : Int32} (h : f_X11_letter v1 v2 σ = some o) : fhC fhYF E d miX11_letter [.ref 0, .int v1, .int v2] σ (some (.int o)) σ := by
  refine fhC.of (y := yX11_letter) (cc := cX11_letter) (nL := 3) (ret := (some .int)) 11 rfl (by decide +kernel) (Nat.le_of_ble_eq_true rfl) ?_
  intro Γ hΓ hR hD hEn
  subst hD; subst hEn
  exact L_X11_letter_E hE hΓ hd v1 v2  σ _ h hR
set_option maxRecDepth 100000 in
set_option maxHeartbeats 4000000 in
theorem L_X4_isRowOf_E {Γ : fhX} (hE : fhEok fhYF (fhEn Γ)) (hΓ : fhOk fhYF 4 cX4_isRowOf 3 (some .boolean) Γ) (hd : 2 ≤ fhD Γ) (v1 : Int32) (v2 : Int32)  (σ : fhM) (o : Bool) (h : f_X4_isRowOf v1 v2 σ = o) (hk : (fun o => fhRet Γ (some (.int (fhb o))) σ) o) : fhW fhYF Γ 0 [(0, .ref 56), (1, .int v1), (2, .int v2)] [] σ := by
  unfold f_X4_isRowOf at h
  refine fhW.blk fhPF fhLL hΓ [(.aload_n 0, 0), (.getfield 42, 0), (.iload_n 2, 0), (.iload_n 1, 0)] (pc' := 6) (lv' := [(0, .ref 56), (1, .int v1), (2, .int v2)]) (st' := [.int v1, .int v2, .ref 39]) (σ' := σ) (by decide +kernel) rfl rfl rfl ?_
  refine fhW.callv hΓ mvX9_viewOf ml_4_86 (t := 39) (ci := 9) (av := [.int v2, .int v1]) (rest := []) (r := (some (.int (f_X9_viewOf v2 v1 σ)))) (σ' := σ) (T_X9_viewOf (E := fhEn Γ) (d := fhD Γ - 1) hE (by omega) v2 v1 σ) (by omega) (by decide +kernel) rfl rfl rfl (Nat.le_of_ble_eq_true rfl) rfl ?_
  show fhW fhYF Γ 9 [(0, .ref 56), (1, .int v1), (2, .int v2)] [.int (f_X9_viewOf v2 v1 σ)] σ
  refine fhW.blk fhPF fhLL hΓ [(.aload_n 0, 0), (.getfield 42, 0), (.aload_n 0, 0), (.getfield 69, 0), (.iload_n 1, 0)] (pc' := 18) (lv' := [(0, .ref 56), (1, .int v1), (2, .int v2)]) (st' := [.int v1, .int (σ.1 56 9), .ref 39, .int (f_X9_viewOf v2 v1 σ)]) (σ' := σ) (by decide +kernel) rfl rfl rfl ?_
  refine fhW.callv hΓ mvX9_viewOf ml_4_86 (t := 39) (ci := 9) (av := [.int (σ.1 56 9), .int v1]) (rest := [.int (f_X9_viewOf v2 v1 σ)]) (r := (some (.int (f_X9_viewOf (σ.1 56 9) v1 σ)))) (σ' := σ) (T_X9_viewOf (E := fhEn Γ) (d := fhD Γ - 1) hE (by omega) (σ.1 56 9) v1 σ) (by omega) (by decide +kernel) rfl rfl rfl (Nat.le_of_ble_eq_true rfl) rfl ?_
  show fhW fhYF Γ 21 [(0, .ref 56), (1, .int v1), (2, .int v2)] [.int (f_X9_viewOf (σ.1 56 9) v1 σ), .int (f_X9_viewOf v2 v1 σ)] σ
  refine fhW.i_ne hΓ (tgt := 28) (show fhbk _ _ (.if_icmp .ne (7)) _ = true by decide +kernel) (fun hc => ?_) (fun hc => ?_)
  · rw [if_neg hc] at h
    refine fhW.blk fhPF fhLL hΓ [(.iconst 0, 0)] (pc' := 29) (lv' := [(0, .ref 56), (1, .int v1), (2, .int v2)]) (st' := [.int (0 : Int32)]) (σ' := σ) (by decide +kernel) rfl rfl rfl ?_
    subst h
    exact fhW.zret (v := false) hΓ (by decide +kernel) hk
  · rw [if_pos hc] at h
    refine fhW.blk fhPF fhLL hΓ [(.iconst 1, 1)] (pc' := 25) (lv' := [(0, .ref 56), (1, .int v1), (2, .int v2)]) (st' := [.int (1 : Int32)]) (σ' := σ) (by decide +kernel) rfl rfl rfl ?_
    refine fhW.goto hΓ (off := 4) (tgt := 29) (by decide +kernel) ?_
    subst h
    exact fhW.zret (v := true) hΓ (by decide +kernel) hk
set_option maxRecDepth 100000 in
theorem T_X4_isRowOf {E : fhE} {d : Nat} (hE : fhEok fhYF E) (hd : 2 ≤ d) (v1 : Int32) (v2 : Int32)  (σ : fhM) : fhC fhYF E d miX4_isRowOf [.ref 56, .int v1, .int v2] σ (some (.int (fhb (f_X4_isRowOf v1 v2 σ)))) σ := by
  refine fhC.of (y := yX4_isRowOf) (cc := cX4_isRowOf) (nL := 3) (ret := (some .boolean)) 4 rfl (by decide +kernel) (Nat.le_of_ble_eq_true rfl) ?_
  intro Γ hΓ hR hD hEn
  subst hD; subst hEn
  exact L_X4_isRowOf_E hE hΓ hd v1 v2  σ _ rfl hR
set_option maxRecDepth 100000 in
set_option maxHeartbeats 4000000 in
theorem L_X4_countRowsOf_34 {Γ : fhX} (hE : fhEok fhYF (fhEn Γ)) (hΓ : fhOk fhYF 4 cX4_countRowsOf 4 (some .int) Γ) (hd : 3 ≤ fhD Γ) (v1 : Int32) (v3 : Int32) (s0 : Int32) (s1 : Int32)  (σ : fhM) (o : (Int32 × Int32) ⊕ (Int32)) (h : f_X4_countRowsOf_34 v1 v3 s0 s1 σ = some o) (hk : (fhK (fun x => fhW fhYF Γ 4 [(0, .ref 56), (1, .int v1), (2, .int x.1), (3, .int x.2)] [] σ) (fun o => fhRet Γ (some (.int o)) σ)) o) : fhW fhYF Γ 34 [(0, .ref 56), (1, .int v1), (3, .int v3)] [.int s0, .int s1] σ := by
  unfold f_X4_countRowsOf_34 at h
  refine fhW.blk fhPF fhLL hΓ [(.iadd, 0), (.istore_n 2, 0), (.iinc 3 1, 1)] (pc' := 39) (lv' := [(3, .int (v3 + (1 : Int32))), (2, .int (s1 + s0)), (0, .ref 56), (1, .int v1)]) (st' := []) (σ' := σ) (by decide +kernel) rfl rfl rfl ?_
  refine fhW.goto hΓ (off := (-35)) (tgt := 4) (by decide +kernel) ?_
  refine fhW.sub (lv' := [(0, .ref 56), (1, .int v1), (2, .int (s1 + s0)), (3, .int (v3 + (1 : Int32)))]) [2, 3, 1, 0] rfl ?_
  have e9 := Option.some.inj h
  subst e9
  exact hk
set_option maxRecDepth 100000 in
set_option maxHeartbeats 4000000 in
theorem L_X4_countRowsOf_4 {Γ : fhX} (hE : fhEok fhYF (fhEn Γ)) (hΓ : fhOk fhYF 4 cX4_countRowsOf 4 (some .int) Γ) (hd : 3 ≤ fhD Γ) (v1 : Int32) (v2 : Int32) (v3 : Int32)  (σ : fhM) (o : (Int32 × Int32) ⊕ (Int32)) (h : f_X4_countRowsOf_4 v1 v2 v3 σ = some o) (hk : (fhK (fun x => fhW fhYF Γ 4 [(0, .ref 56), (1, .int v1), (2, .int x.1), (3, .int x.2)] [] σ) (fun o => fhRet Γ (some (.int o)) σ)) o) : fhW fhYF Γ 4 [(0, .ref 56), (1, .int v1), (2, .int v2), (3, .int v3)] [] σ := by
  unfold f_X4_countRowsOf_4 at h
  refine fhW.blk fhPF fhLL hΓ [(.iload_n 3, 0), (.aload_n 0, 0), (.getfield 63, 0)] (pc' := 9) (lv' := [(0, .ref 56), (1, .int v1), (2, .int v2), (3, .int v3)]) (st' := [.int (σ.1 56 8), .int v3]) (σ' := σ) (by decide +kernel) rfl rfl rfl ?_
  refine fhW.i_ge hΓ (tgt := 42) (show fhbk _ _ (.if_icmp .ge (33)) _ = true by decide +kernel) (fun hc => ?_) (fun hc => ?_)
  · rw [if_pos hc] at h
    refine fhW.blk fhPF fhLL hΓ [(.iload_n 2, 0)] (pc' := 43) (lv' := [(0, .ref 56), (1, .int v1), (2, .int v2), (3, .int v3)]) (st' := [.int v2]) (σ' := σ) (by decide +kernel) rfl rfl rfl ?_
    have e9 := Option.some.inj h
    subst e9
    exact fhW.iret hΓ (by decide +kernel) hk
  · rw [if_neg hc] at h
    refine fhW.blk fhPF fhLL hΓ [(.iload_n 2, 0), (.aload_n 0, 0), (.iload_n 1, 0), (.aload_n 0, 0), (.getfield 36, 0), (.iload_n 3, 0)] (pc' := 20) (lv' := [(0, .ref 56), (1, .int v1), (2, .int v2), (3, .int v3)]) (st' := [.int v3, .ref 72, .int v1, .ref 56, .int v2]) (σ' := σ) (by decide +kernel) rfl rfl rfl ?_
    refine fhW.callv hΓ mvX2_get ml_4_55 (t := 72) (ci := 2) (av := [.int v3]) (rest := [.int v1, .ref 56, .int v2]) (r := (some (.int (fcG σ 72 v3)))) (σ' := σ) (T_X2_get (E := fhEn Γ) (d := fhD Γ - 1) hE (by omega) 72 v3 rfl σ) (by omega) (by decide +kernel) rfl rfl rfl (Nat.le_of_ble_eq_true rfl) rfl ?_
    show fhW fhYF Γ 23 [(0, .ref 56), (1, .int v1), (2, .int v2), (3, .int v3)] [.int (fcG σ 72 v3), .int v1, .ref 56, .int v2] σ
    refine fhW.callv hΓ mvX4_isRowOf ml_4_90 (t := 56) (ci := 4) (av := [.int v1, .int (fcG σ 72 v3)]) (rest := [.int v2]) (r := (some (.int (fhb (f_X4_isRowOf v1 (fcG σ 72 v3) σ))))) (σ' := σ) (T_X4_isRowOf (E := fhEn Γ) (d := fhD Γ - 1) hE (by omega) v1 (fcG σ 72 v3) σ) (by omega) (by decide +kernel) rfl rfl rfl (Nat.le_of_ble_eq_true rfl) rfl ?_
    show fhW fhYF Γ 26 [(0, .ref 56), (1, .int v1), (2, .int v2), (3, .int v3)] [.int (fhb (f_X4_isRowOf v1 (fcG σ 72 v3) σ)), .int v2] σ
    refine fhW.b_eq hΓ (tgt := 33) (show fhbk _ _ (.ifCond .eq (7)) _ = true by decide +kernel) (fun hc => ?_) (fun hc => ?_)
    · simp only [if_neg hc] at h
      refine fhW.blk fhPF fhLL hΓ [(.iconst 0, 0)] (pc' := 34) (lv' := [(0, .ref 56), (1, .int v1), (2, .int v2), (3, .int v3)]) (st' := [.int (0 : Int32), .int v2]) (σ' := σ) (by decide +kernel) rfl rfl rfl ?_
      refine fhW.sub (lv' := [(0, .ref 56), (1, .int v1), (3, .int v3)]) [0, 1, 3] rfl ?_
      exact L_X4_countRowsOf_34 hE hΓ hd v1 v3 (0 : Int32) v2 σ _ h hk
    · simp only [if_pos hc] at h
      refine fhW.blk fhPF fhLL hΓ [(.iconst 1, 1)] (pc' := 30) (lv' := [(0, .ref 56), (1, .int v1), (2, .int v2), (3, .int v3)]) (st' := [.int (1 : Int32), .int v2]) (σ' := σ) (by decide +kernel) rfl rfl rfl ?_
      refine fhW.goto hΓ (off := 4) (tgt := 34) (by decide +kernel) ?_
      refine fhW.sub (lv' := [(0, .ref 56), (1, .int v1), (3, .int v3)]) [0, 1, 3] rfl ?_
      exact L_X4_countRowsOf_34 hE hΓ hd v1 v3 (1 : Int32) v2 σ _ h hk
set_option maxRecDepth 100000 in
set_option maxHeartbeats 4000000 in
theorem L_X4_countRowsOf_E {Γ : fhX} (hE : fhEok fhYF (fhEn Γ)) (hΓ : fhOk fhYF 4 cX4_countRowsOf 4 (some .int) Γ) (hd : 3 ≤ fhD Γ) (v1 : Int32)  (σ : fhM) (o : Int32) (h : f_X4_countRowsOf v1 σ = some o) (hk : (fun o => fhRet Γ (some (.int o)) σ) o) : fhW fhYF Γ 0 [(0, .ref 56), (1, .int v1)] [] σ := by
  unfold f_X4_countRowsOf at h
  refine fhW.blk fhPF fhLL hΓ [(.iconst 0, 0), (.istore_n 2, 0), (.iconst 0, 0), (.istore_n 3, 0)] (pc' := 4) (lv' := [(3, .int (0 : Int32)), (2, .int (0 : Int32)), (0, .ref 56), (1, .int v1)]) (st' := []) (σ' := σ) (by decide +kernel) rfl rfl rfl ?_
  refine fhW.sub (lv' := [(0, .ref 56), (1, .int v1), (2, .int (0 : Int32)), (3, .int (0 : Int32))]) [2, 3, 1, 0] rfl ?_
  exact fhlp_ok (W := (fun x => fhW fhYF Γ 4 [(0, .ref 56), (1, .int v1), (2, .int x.1), (3, .int x.2)] [] σ)) (B := (fun o => fhRet Γ (some (.int o)) σ)) (fun x o h hk => L_X4_countRowsOf_4 hE hΓ hd v1 x.1 x.2 σ o h hk) ((0 : Int32), (0 : Int32)) _ h hk
set_option maxRecDepth 100000 in
theorem T_X4_countRowsOf {E : fhE} {d : Nat} (hE : fhEok fhYF E) (hd : 3 ≤ d) (v1 : Int32)  (σ : fhM) {o : Int32} (h : f_X4_countRowsOf v1 σ = some o) : fhC fhYF E d miX4_countRowsOf [.ref 56, .int v1] σ (some (.int o)) σ := by
  refine fhC.of (y := yX4_countRowsOf) (cc := cX4_countRowsOf) (nL := 4) (ret := (some .int)) 4 rfl (by decide +kernel) (Nat.le_of_ble_eq_true rfl) ?_
  intro Γ hΓ hR hD hEn
  subst hD; subst hEn
  exact L_X4_countRowsOf_E hE hΓ hd v1  σ _ h hR
set_option maxRecDepth 100000 in
set_option maxHeartbeats 4000000 in
theorem L_X4_isKnower_E {Γ : fhX} (hE : fhEok fhYF (fhEn Γ)) (hΓ : fhOk fhYF 4 cX4_isKnower 2 (some .boolean) Γ) (hd : 2 ≤ fhD Γ) (v1 : Int32)  (σ : fhM) (o : Bool) (h : f_X4_isKnower v1 σ = o) (hk : (fun o => fhRet Γ (some (.int (fhb o))) σ) o) : fhW fhYF Γ 0 [(0, .ref 56), (1, .int v1)] [] σ := by
  unfold f_X4_isKnower at h
  refine fhW.blk fhPF fhLL hΓ [(.aload_n 0, 0)] (pc' := 1) (lv' := [(0, .ref 56), (1, .int v1)]) (st' := [.ref 56]) (σ' := σ) (by decide +kernel) rfl rfl rfl ?_
  refine fhW.callv hΓ mvX4_knowers ml_4_82 (t := 56) (ci := 4) (av := []) (rest := []) (r := (some (.int (f_X4_knowers σ)))) (σ' := σ) (T_X4_knowers (E := fhEn Γ) (d := fhD Γ - 1) hE (by omega) σ) (by omega) (by decide +kernel) rfl rfl rfl (Nat.le_of_ble_eq_true rfl) rfl ?_
  show fhW fhYF Γ 4 [(0, .ref 56), (1, .int v1)] [.int (f_X4_knowers σ)] σ
  refine fhW.blk fhPF fhLL hΓ [(.iload_n 1, 0), (.ishr, 0), (.iconst 1, 1), (.iand, 0)] (pc' := 8) (lv' := [(0, .ref 56), (1, .int v1)]) (st' := [.int (((f_X4_knowers σ) >>> (v1 &&& 31)) &&& (1 : Int32))]) (σ' := σ) (by decide +kernel) rfl rfl rfl ?_
  refine fhW.z_eq hΓ (tgt := 15) (show fhbk _ _ (.ifCond .eq (7)) _ = true by decide +kernel) (fun hc => ?_) (fun hc => ?_)
  · rw [if_pos hc] at h
    refine fhW.blk fhPF fhLL hΓ [(.iconst 0, 0)] (pc' := 16) (lv' := [(0, .ref 56), (1, .int v1)]) (st' := [.int (0 : Int32)]) (σ' := σ) (by decide +kernel) rfl rfl rfl ?_
    subst h
    exact fhW.zret (v := false) hΓ (by decide +kernel) hk
  · rw [if_neg hc] at h
    refine fhW.blk fhPF fhLL hΓ [(.iconst 1, 1)] (pc' := 12) (lv' := [(0, .ref 56), (1, .int v1)]) (st' := [.int (1 : Int32)]) (σ' := σ) (by decide +kernel) rfl rfl rfl ?_
    refine fhW.goto hΓ (off := 4) (tgt := 16) (by decide +kernel) ?_
    subst h
    exact fhW.zret (v := true) hΓ (by decide +kernel) hk
set_option maxRecDepth 100000 in
theorem T_X4_isKnower {E : fhE} {d : Nat} (hE : fhEok fhYF E) (hd : 2 ≤ d) (v1 : Int32)  (σ : fhM) : fhC fhYF E d miX4_isKnower [.ref 56, .int v1] σ (some (.int (fhb (f_X4_isKnower v1 σ)))) σ := by
  refine fhC.of (y := yX4_isKnower) (cc := cX4_isKnower) (nL := 2) (ret := (some .boolean)) 4 rfl (by decide +kernel) (Nat.le_of_ble_eq_true rfl) ?_
  intro Γ hΓ hR hD hEn
  subst hD; subst hEn
  exact L_X4_isKnower_E hE hΓ hd v1  σ _ rfl hR

