set_option maxRecDepth 100000 in
set_option maxHeartbeats 4000000 in
theorem L_X9_findKnowers_168 {Γ : fhX} (hE : fhEok fhYF (fhEn Γ)) (hΓ : fhOk fhYF 9 cX9_findKnowers 8 none Γ) (hd : 2 ≤ fhD Γ) (v1 : Nat) (v2 : Int32) (v3 : Int32) (v4 : Nat) (v5 : Int32) (v6 : Int32) (hv1 : fhiC v1 = true) (hv4 : fhiC v4 = true) (σ : fhM) (o : (Int32 × fhM) ⊕ ((Int32 × fhM) ⊕ (fhM))) (h : f_X9_findKnowers_168 v1 v2 v3 v4 v5 v6 σ = some o) (hk : (fhK (fun x => fhW fhYF Γ 168 [(0, .ref 39), (1, .ref v1), (2, .int v2), (3, .int v3), (4, .ref v4), (5, .int v5), (6, .int x.1)] [] x.2) (fhK (fun x => fhW fhYF Γ 30 [(0, .ref 39), (1, .ref v1), (2, .int v2), (3, .int v3), (4, .ref v4), (5, .int x.1)] [] x.2) (fun o => fhRet Γ none o))) o) : fhW fhYF Γ 168 [(0, .ref 39), (1, .ref v1), (2, .int v2), (3, .int v3), (4, .ref v4), (5, .int v5), (6, .int v6)] [] σ := by
  unfold f_X9_findKnowers_168 at h
  refine fhW.blk fhPF fhLL hΓ [(.iload 6, 0), (.iload_n 3, 0)] (pc' := 171) (lv' := [(0, .ref 39), (1, .ref v1), (2, .int v2), (3, .int v3), (4, .ref v4), (5, .int v5), (6, .int v6)]) (st' := [.int v3, .int v6]) (σ' := σ) (by decide +kernel) rfl rfl rfl ?_
  refine fhW.i_ge hΓ (tgt := 200) (show fhbk _ _ (.if_icmp .ge (29)) _ = true by decide +kernel) (fun hc => ?_) (fun hc => ?_)
  · rw [if_pos hc] at h
    refine fhW.blk fhPF fhLL hΓ [(.iinc 5 1, 1)] (pc' := 203) (lv' := [(5, .int (v5 + (1 : Int32))), (0, .ref 39), (1, .ref v1), (2, .int v2), (3, .int v3), (4, .ref v4), (6, .int v6)]) (st' := []) (σ' := σ) (by decide +kernel) rfl rfl rfl ?_
    refine fhW.goto hΓ (off := (-173)) (tgt := 30) (by decide +kernel) ?_
    refine fhW.sub (lv' := [(0, .ref 39), (1, .ref v1), (2, .int v2), (3, .int v3), (4, .ref v4), (5, .int (v5 + (1 : Int32)))]) [1, 2, 3, 4, 5, 0] rfl ?_
    have e9 := Option.some.inj h
    subst e9
    exact hk
  · rw [if_neg hc] at h
    refine fhW.blk fhPF fhLL hΓ [(.aload_n 0, 0), (.getfield 29, 0), (.aload_n 0, 0), (.aload_n 1, 0), (.iload 6, 0)] (pc' := 182) (lv' := [(0, .ref 39), (1, .ref v1), (2, .int v2), (3, .int v3), (4, .ref v4), (5, .int v5), (6, .int v6)]) (st' := [.int v6, .ref v1, .ref 39, .ref 48]) (σ' := σ) (by decide +kernel) rfl rfl rfl ?_
    refine fhW.callv hΓ mvX2_get ml_9_60 (t := v1) (ci := 2) (av := [.int v6]) (rest := [.ref 39, .ref 48]) (r := (some (.int (fcG σ v1 v6)))) (σ' := σ) (T_X2_get (E := fhEn Γ) (d := fhD Γ - 1) hE (by omega) v1 v6 hv1 σ) (by omega) (by decide +kernel) rfl (fhiC_g hv1) rfl (Nat.le_of_ble_eq_true rfl) rfl ?_
    show fhW fhYF Γ 185 [(0, .ref 39), (1, .ref v1), (2, .int v2), (3, .int v3), (4, .ref v4), (5, .int v5), (6, .int v6)] [.int (fcG σ v1 v6), .ref 39, .ref 48] σ
    refine fhW.blk fhPF fhLL hΓ [(.iload 5, 0)] (pc' := 187) (lv' := [(0, .ref 39), (1, .ref v1), (2, .int v2), (3, .int v3), (4, .ref v4), (5, .int v5), (6, .int v6)]) (st' := [.int v5, .int (fcG σ v1 v6), .ref 39, .ref 48]) (σ' := σ) (by decide +kernel) rfl rfl rfl ?_
    refine fhW.callv hΓ mvX9_viewOf ml_9_106 (t := 39) (ci := 9) (av := [.int (fcG σ v1 v6), .int v5]) (rest := [.ref 48]) (r := (some (.int (f_X9_viewOf (fcG σ v1 v6) v5 σ)))) (σ' := σ) (T_X9_viewOf (E := fhEn Γ) (d := fhD Γ - 1) hE (by omega) (fcG σ v1 v6) v5 σ) (by omega) (by decide +kernel) rfl rfl rfl (Nat.le_of_ble_eq_true rfl) rfl ?_
    show fhW fhYF Γ 190 [(0, .ref 39), (1, .ref v1), (2, .int v2), (3, .int v3), (4, .ref v4), (5, .int v5), (6, .int v6)] [.int (f_X9_viewOf (fcG σ v1 v6) v5 σ), .ref 48] σ
    refine fhW.blk fhPF fhLL hΓ [(.iconst 0, 0)] (pc' := 191) (lv' := [(0, .ref 39), (1, .ref v1), (2, .int v2), (3, .int v3), (4, .ref v4), (5, .int v5), (6, .int v6)]) (st' := [.int (0 : Int32), .int (f_X9_viewOf (fcG σ v1 v6) v5 σ), .ref 48]) (σ' := σ) (by decide +kernel) rfl rfl rfl ?_
    refine fhW.callv hΓ mvX2_put ml_9_56 (t := 48) (ci := 2) (av := [.int (f_X9_viewOf (fcG σ v1 v6) v5 σ), .int (0 : Int32)]) (rest := []) (r := none) (σ' := (fcP σ 48 (f_X9_viewOf (fcG σ v1 v6) v5 σ) (0 : Int32))) (T_X2_put (E := fhEn Γ) (d := fhD Γ - 1) hE (by omega) 48 (f_X9_viewOf (fcG σ v1 v6) v5 σ) (0 : Int32) rfl σ) (by omega) (by decide +kernel) rfl rfl rfl (Nat.le_of_ble_eq_true rfl) rfl ?_
    show fhW fhYF Γ 194 [(0, .ref 39), (1, .ref v1), (2, .int v2), (3, .int v3), (4, .ref v4), (5, .int v5), (6, .int v6)] [] (fcP σ 48 (f_X9_viewOf (fcG σ v1 v6) v5 σ) (0 : Int32))
    refine fhW.blk fhPF fhLL hΓ [(.iinc 6 1, 1)] (pc' := 197) (lv' := [(6, .int (v6 + (1 : Int32))), (0, .ref 39), (1, .ref v1), (2, .int v2), (3, .int v3), (4, .ref v4), (5, .int v5)]) (st' := []) (σ' := (fcP σ 48 (f_X9_viewOf (fcG σ v1 v6) v5 σ) (0 : Int32))) (by decide +kernel) rfl rfl rfl ?_
    refine fhW.goto hΓ (off := (-29)) (tgt := 168) (by decide +kernel) ?_
    refine fhW.sub (lv' := [(0, .ref 39), (1, .ref v1), (2, .int v2), (3, .int v3), (4, .ref v4), (5, .int v5), (6, .int (v6 + (1 : Int32)))]) [1, 2, 3, 4, 5, 6, 0] rfl ?_
    have e9 := Option.some.inj h
    subst e9
    exact hk
set_option maxRecDepth 100000 in
set_option maxHeartbeats 4000000 in
theorem L_X9_findKnowers_159 {Γ : fhX} (hE : fhEok fhYF (fhEn Γ)) (hΓ : fhOk fhYF 9 cX9_findKnowers 8 none Γ) (hd : 2 ≤ fhD Γ) (v1 : Nat) (v2 : Int32) (v3 : Int32) (v4 : Nat) (v5 : Int32) (v6 : Int32) (hv1 : fhiC v1 = true) (hv4 : fhiC v4 = true) (σ : fhM) (o : (Int32 × fhM) ⊕ ((Int32 × fhM) ⊕ (fhM))) (h : f_X9_findKnowers_159 v1 v2 v3 v4 v5 v6 σ = some o) (hk : (fhK (fun x => fhW fhYF Γ 104 [(0, .ref 39), (1, .ref v1), (2, .int v2), (3, .int v3), (4, .ref v4), (5, .int v5), (6, .int x.1)] [] x.2) (fhK (fun x => fhW fhYF Γ 30 [(0, .ref 39), (1, .ref v1), (2, .int v2), (3, .int v3), (4, .ref v4), (5, .int x.1)] [] x.2) (fun o => fhRet Γ none o))) o) : fhW fhYF Γ 159 [(0, .ref 39), (1, .ref v1), (2, .int v2), (3, .int v3), (4, .ref v4), (5, .int v5), (6, .int v6)] [] σ := by
  unfold f_X9_findKnowers_159 at h
  refine fhW.blk fhPF fhLL hΓ [(.iinc 6 1, 1)] (pc' := 162) (lv' := [(6, .int (v6 + (1 : Int32))), (0, .ref 39), (1, .ref v1), (2, .int v2), (3, .int v3), (4, .ref v4), (5, .int v5)]) (st' := []) (σ' := σ) (by decide +kernel) rfl rfl rfl ?_
  refine fhW.goto hΓ (off := (-58)) (tgt := 104) (by decide +kernel) ?_
  refine fhW.sub (lv' := [(0, .ref 39), (1, .ref v1), (2, .int v2), (3, .int v3), (4, .ref v4), (5, .int v5), (6, .int (v6 + (1 : Int32)))]) [1, 2, 3, 4, 5, 6, 0] rfl ?_
  have e9 := Option.some.inj h
  subst e9
  exact hk
set_option maxRecDepth 100000 in
set_option maxHeartbeats 4000000 in
theorem L_X9_findKnowers_104 {Γ : fhX} (hE : fhEok fhYF (fhEn Γ)) (hΓ : fhOk fhYF 9 cX9_findKnowers 8 none Γ) (hd : 2 ≤ fhD Γ) (v1 : Nat) (v2 : Int32) (v3 : Int32) (v4 : Nat) (v5 : Int32) (v6 : Int32) (hv1 : fhiC v1 = true) (hv4 : fhiC v4 = true) (σ : fhM) (o : (Int32 × fhM) ⊕ ((Int32 × fhM) ⊕ (fhM))) (h : f_X9_findKnowers_104 v1 v2 v3 v4 v5 v6 σ = some o) (hk : (fhK (fun x => fhW fhYF Γ 104 [(0, .ref 39), (1, .ref v1), (2, .int v2), (3, .int v3), (4, .ref v4), (5, .int v5), (6, .int x.1)] [] x.2) (fhK (fun x => fhW fhYF Γ 30 [(0, .ref 39), (1, .ref v1), (2, .int v2), (3, .int v3), (4, .ref v4), (5, .int x.1)] [] x.2) (fun o => fhRet Γ none o))) o) : fhW fhYF Γ 104 [(0, .ref 39), (1, .ref v1), (2, .int v2), (3, .int v3), (4, .ref v4), (5, .int v5), (6, .int v6)] [] σ := by
  unfold f_X9_findKnowers_104 at h
  refine fhW.blk fhPF fhLL hΓ [(.iload 6, 0), (.iload_n 3, 0)] (pc' := 107) (lv' := [(0, .ref 39), (1, .ref v1), (2, .int v2), (3, .int v3), (4, .ref v4), (5, .int v5), (6, .int v6)]) (st' := [.int v3, .int v6]) (σ' := σ) (by decide +kernel) rfl rfl rfl ?_
  refine fhW.i_ge hΓ (tgt := 165) (show fhbk _ _ (.if_icmp .ge (58)) _ = true by decide +kernel) (fun hc => ?_) (fun hc => ?_)
  · rw [if_pos hc] at h
    refine fhW.blk fhPF fhLL hΓ [(.iload_n 2, 0), (.istore 6, 0)] (pc' := 168) (lv' := [(6, .int v2), (0, .ref 39), (1, .ref v1), (2, .int v2), (3, .int v3), (4, .ref v4), (5, .int v5)]) (st' := []) (σ' := σ) (by decide +kernel) rfl rfl rfl ?_
    refine fhW.sub (lv' := [(0, .ref 39), (1, .ref v1), (2, .int v2), (3, .int v3), (4, .ref v4), (5, .int v5), (6, .int v2)]) [1, 2, 3, 4, 5, 6, 0] rfl ?_
    obtain ⟨z1, hz, e1⟩ := Option.map_eq_some_iff.mp h
    clear h
    subst e1
    have h := hz
    have hk : (fhK (fun x => fhW fhYF Γ 30 [(0, .ref 39), (1, .ref v1), (2, .int v2), (3, .int v3), (4, .ref v4), (5, .int x.1)] [] x.2) (fun o => fhRet Γ none o)) z1 := hk
    exact fhlp_ok (W := (fun x => fhW fhYF Γ 168 [(0, .ref 39), (1, .ref v1), (2, .int v2), (3, .int v3), (4, .ref v4), (5, .int v5), (6, .int x.1)] [] x.2)) (B := (fhK (fun x => fhW fhYF Γ 30 [(0, .ref 39), (1, .ref v1), (2, .int v2), (3, .int v3), (4, .ref v4), (5, .int x.1)] [] x.2) (fun o => fhRet Γ none o))) (fun x o h hk => L_X9_findKnowers_168 hE hΓ hd v1 v2 v3 v4 v5 x.1 hv1 hv4 x.2 o h hk) (v2, σ) _ h hk
  · rw [if_neg hc] at h
    refine fhW.blk fhPF fhLL hΓ [(.aload_n 1, 0), (.iload 6, 0)] (pc' := 113) (lv' := [(0, .ref 39), (1, .ref v1), (2, .int v2), (3, .int v3), (4, .ref v4), (5, .int v5), (6, .int v6)]) (st' := [.int v6, .ref v1]) (σ' := σ) (by decide +kernel) rfl rfl rfl ?_
    refine fhW.callv hΓ mvX2_get ml_9_60 (t := v1) (ci := 2) (av := [.int v6]) (rest := []) (r := (some (.int (fcG σ v1 v6)))) (σ' := σ) (T_X2_get (E := fhEn Γ) (d := fhD Γ - 1) hE (by omega) v1 v6 hv1 σ) (by omega) (by decide +kernel) rfl (fhiC_g hv1) rfl (Nat.le_of_ble_eq_true rfl) rfl ?_
    show fhW fhYF Γ 116 [(0, .ref 39), (1, .ref v1), (2, .int v2), (3, .int v3), (4, .ref v4), (5, .int v5), (6, .int v6)] [.int (fcG σ v1 v6)] σ
    refine fhW.blk fhPF fhLL hΓ [(.istore 7, 0), (.aload_n 0, 0), (.getfield 29, 0), (.aload_n 0, 0), (.iload 7, 0), (.iload 5, 0)] (pc' := 127) (lv' := [(7, .int (fcG σ v1 v6)), (0, .ref 39), (1, .ref v1), (2, .int v2), (3, .int v3), (4, .ref v4), (5, .int v5), (6, .int v6)]) (st' := [.int v5, .int (fcG σ v1 v6), .ref 39, .ref 48]) (σ' := σ) (by decide +kernel) rfl rfl rfl ?_
    refine fhW.callv hΓ mvX9_viewOf ml_9_106 (t := 39) (ci := 9) (av := [.int (fcG σ v1 v6), .int v5]) (rest := [.ref 48]) (r := (some (.int (f_X9_viewOf (fcG σ v1 v6) v5 σ)))) (σ' := σ) (T_X9_viewOf (E := fhEn Γ) (d := fhD Γ - 1) hE (by omega) (fcG σ v1 v6) v5 σ) (by omega) (by decide +kernel) rfl rfl rfl (Nat.le_of_ble_eq_true rfl) rfl ?_
    show fhW fhYF Γ 130 [(7, .int (fcG σ v1 v6)), (0, .ref 39), (1, .ref v1), (2, .int v2), (3, .int v3), (4, .ref v4), (5, .int v5), (6, .int v6)] [.int (f_X9_viewOf (fcG σ v1 v6) v5 σ), .ref 48] σ
    refine fhW.callv hΓ mvX2_get ml_9_60 (t := 48) (ci := 2) (av := [.int (f_X9_viewOf (fcG σ v1 v6) v5 σ)]) (rest := []) (r := (some (.int (fcG σ 48 (f_X9_viewOf (fcG σ v1 v6) v5 σ))))) (σ' := σ) (T_X2_get (E := fhEn Γ) (d := fhD Γ - 1) hE (by omega) 48 (f_X9_viewOf (fcG σ v1 v6) v5 σ) rfl σ) (by omega) (by decide +kernel) rfl rfl rfl (Nat.le_of_ble_eq_true rfl) rfl ?_
    show fhW fhYF Γ 133 [(7, .int (fcG σ v1 v6)), (0, .ref 39), (1, .ref v1), (2, .int v2), (3, .int v3), (4, .ref v4), (5, .int v5), (6, .int v6)] [.int (fcG σ 48 (f_X9_viewOf (fcG σ v1 v6) v5 σ))] σ
    refine fhW.calls hΓ msJ6_bitCount_0f7a4 ml_9_109 (av := [.int (fcG σ 48 (f_X9_viewOf (fcG σ v1 v6) v5 σ))]) (rest := []) (r := (some (.int (f_J6_bitCount_0f7a4 (fcG σ 48 (f_X9_viewOf (fcG σ v1 v6) v5 σ)) σ)))) (σ' := σ) (T_J6_bitCount_0f7a4 (E := fhEn Γ) (d := fhD Γ - 1) hE (by omega) (fcG σ 48 (f_X9_viewOf (fcG σ v1 v6) v5 σ)) σ) (by omega) (by decide +kernel) rfl (Nat.le_of_ble_eq_true rfl) rfl ?_
    show fhW fhYF Γ 136 [(7, .int (fcG σ v1 v6)), (0, .ref 39), (1, .ref v1), (2, .int v2), (3, .int v3), (4, .ref v4), (5, .int v5), (6, .int v6)] [.int (f_J6_bitCount_0f7a4 (fcG σ 48 (f_X9_viewOf (fcG σ v1 v6) v5 σ)) σ)] σ
    refine fhW.blk fhPF fhLL hΓ [(.iconst 1, 1)] (pc' := 137) (lv' := [(7, .int (fcG σ v1 v6)), (0, .ref 39), (1, .ref v1), (2, .int v2), (3, .int v3), (4, .ref v4), (5, .int v5), (6, .int v6)]) (st' := [.int (1 : Int32), .int (f_J6_bitCount_0f7a4 (fcG σ 48 (f_X9_viewOf (fcG σ v1 v6) v5 σ)) σ)]) (σ' := σ) (by decide +kernel) rfl rfl rfl ?_
    refine fhW.i_ne hΓ (tgt := 159) (show fhbk _ _ (.if_icmp .ne (22)) _ = true by decide +kernel) (fun hc => ?_) (fun hc => ?_)
    · rw [if_neg hc] at h
      refine fhW.sub (lv' := [(0, .ref 39), (1, .ref v1), (2, .int v2), (3, .int v3), (4, .ref v4), (5, .int v5), (6, .int v6)]) [1, 2, 3, 4, 5, 6, 7] rfl ?_
      exact L_X9_findKnowers_159 hE hΓ hd v1 v2 v3 v4 v5 v6 hv1 hv4 σ _ h hk
    · rw [if_pos hc] at h
      refine fhW.blk fhPF fhLL hΓ [(.aload 4, 0), (.iload 7, 0), (.aload 4, 0), (.iload 7, 0)] (pc' := 148) (lv' := [(7, .int (fcG σ v1 v6)), (0, .ref 39), (1, .ref v1), (2, .int v2), (3, .int v3), (4, .ref v4), (5, .int v5), (6, .int v6)]) (st' := [.int (fcG σ v1 v6), .ref v4, .int (fcG σ v1 v6), .ref v4]) (σ' := σ) (by decide +kernel) rfl rfl rfl ?_
      refine fhW.callv hΓ mvX2_get ml_9_60 (t := v4) (ci := 2) (av := [.int (fcG σ v1 v6)]) (rest := [.int (fcG σ v1 v6), .ref v4]) (r := (some (.int (fcG σ v4 (fcG σ v1 v6))))) (σ' := σ) (T_X2_get (E := fhEn Γ) (d := fhD Γ - 1) hE (by omega) v4 (fcG σ v1 v6) hv4 σ) (by omega) (by decide +kernel) rfl (fhiC_g hv4) rfl (Nat.le_of_ble_eq_true rfl) rfl ?_
      show fhW fhYF Γ 151 [(7, .int (fcG σ v1 v6)), (0, .ref 39), (1, .ref v1), (2, .int v2), (3, .int v3), (4, .ref v4), (5, .int v5), (6, .int v6)] [.int (fcG σ v4 (fcG σ v1 v6)), .int (fcG σ v1 v6), .ref v4] σ
      refine fhW.blk fhPF fhLL hΓ [(.iconst 1, 1), (.iload 5, 0), (.ishl, 0), (.ior, 0)] (pc' := 156) (lv' := [(7, .int (fcG σ v1 v6)), (0, .ref 39), (1, .ref v1), (2, .int v2), (3, .int v3), (4, .ref v4), (5, .int v5), (6, .int v6)]) (st' := [.int ((fcG σ v4 (fcG σ v1 v6)) ||| ((1 : Int32) <<< (v5 &&& 31))), .int (fcG σ v1 v6), .ref v4]) (σ' := σ) (by decide +kernel) rfl rfl rfl ?_
      refine fhW.callv hΓ mvX2_put ml_9_56 (t := v4) (ci := 2) (av := [.int (fcG σ v1 v6), .int ((fcG σ v4 (fcG σ v1 v6)) ||| ((1 : Int32) <<< (v5 &&& 31)))]) (rest := []) (r := none) (σ' := (fcP σ v4 (fcG σ v1 v6) ((fcG σ v4 (fcG σ v1 v6)) ||| ((1 : Int32) <<< (v5 &&& 31))))) (T_X2_put (E := fhEn Γ) (d := fhD Γ - 1) hE (by omega) v4 (fcG σ v1 v6) ((fcG σ v4 (fcG σ v1 v6)) ||| ((1 : Int32) <<< (v5 &&& 31))) hv4 σ) (by omega) (by decide +kernel) rfl (fhiC_g hv4) rfl (Nat.le_of_ble_eq_true rfl) rfl ?_
      show fhW fhYF Γ 159 [(7, .int (fcG σ v1 v6)), (0, .ref 39), (1, .ref v1), (2, .int v2), (3, .int v3), (4, .ref v4), (5, .int v5), (6, .int v6)] [] (fcP σ v4 (fcG σ v1 v6) ((fcG σ v4 (fcG σ v1 v6)) ||| ((1 : Int32) <<< (v5 &&& 31))))
      refine fhW.sub (lv' := [(0, .ref 39), (1, .ref v1), (2, .int v2), (3, .int v3), (4, .ref v4), (5, .int v5), (6, .int v6)]) [1, 2, 3, 4, 5, 6, 7] rfl ?_
      exact L_X9_findKnowers_159 hE hΓ hd v1 v2 v3 v4 v5 v6 hv1 hv4 (fcP σ v4 (fcG σ v1 v6) ((fcG σ v4 (fcG σ v1 v6)) ||| ((1 : Int32) <<< (v5 &&& 31)))) _ h hk
set_option maxRecDepth 100000 in
set_option maxHeartbeats 4000000 in
theorem L_X9_findKnowers_42 {Γ : fhX} (hE : fhEok fhYF (fhEn Γ)) (hΓ : fhOk fhYF 9 cX9_findKnowers 8 none Γ) (hd : 2 ≤ fhD Γ) (v1 : Nat) (v2 : Int32) (v3 : Int32) (v4 : Nat) (v5 : Int32) (v6 : Int32) (hv1 : fhiC v1 = true) (hv4 : fhiC v4 = true) (σ : fhM) (o : (Int32 × fhM) ⊕ ((Int32 × fhM) ⊕ (fhM))) (h : f_X9_findKnowers_42 v1 v2 v3 v4 v5 v6 σ = some o) (hk : (fhK (fun x => fhW fhYF Γ 42 [(0, .ref 39), (1, .ref v1), (2, .int v2), (3, .int v3), (4, .ref v4), (5, .int v5), (6, .int x.1)] [] x.2) (fhK (fun x => fhW fhYF Γ 30 [(0, .ref 39), (1, .ref v1), (2, .int v2), (3, .int v3), (4, .ref v4), (5, .int x.1)] [] x.2) (fun o => fhRet Γ none o))) o) : fhW fhYF Γ 42 [(0, .ref 39), (1, .ref v1), (2, .int v2), (3, .int v3), (4, .ref v4), (5, .int v5), (6, .int v6)] [] σ := by
  unfold f_X9_findKnowers_42 at h
  refine fhW.blk fhPF fhLL hΓ [(.iload 6, 0), (.iload_n 3, 0)] (pc' := 45) (lv' := [(0, .ref 39), (1, .ref v1), (2, .int v2), (3, .int v3), (4, .ref v4), (5, .int v5), (6, .int v6)]) (st' := [.int v3, .int v6]) (σ' := σ) (by decide +kernel) rfl rfl rfl ?_
  refine fhW.i_ge hΓ (tgt := 101) (show fhbk _ _ (.if_icmp .ge (56)) _ = true by decide +kernel) (fun hc => ?_) (fun hc => ?_)
  · rw [if_pos hc] at h
    refine fhW.blk fhPF fhLL hΓ [(.iload_n 2, 0), (.istore 6, 0)] (pc' := 104) (lv' := [(6, .int v2), (0, .ref 39), (1, .ref v1), (2, .int v2), (3, .int v3), (4, .ref v4), (5, .int v5)]) (st' := []) (σ' := σ) (by decide +kernel) rfl rfl rfl ?_
    refine fhW.sub (lv' := [(0, .ref 39), (1, .ref v1), (2, .int v2), (3, .int v3), (4, .ref v4), (5, .int v5), (6, .int v2)]) [1, 2, 3, 4, 5, 6, 0] rfl ?_
    obtain ⟨z2, hz, e2⟩ := Option.map_eq_some_iff.mp h
    clear h
    subst e2
    have h := hz
    have hk : (fhK (fun x => fhW fhYF Γ 30 [(0, .ref 39), (1, .ref v1), (2, .int v2), (3, .int v3), (4, .ref v4), (5, .int x.1)] [] x.2) (fun o => fhRet Γ none o)) z2 := hk
    exact fhlp_ok (W := (fun x => fhW fhYF Γ 104 [(0, .ref 39), (1, .ref v1), (2, .int v2), (3, .int v3), (4, .ref v4), (5, .int v5), (6, .int x.1)] [] x.2)) (B := (fhK (fun x => fhW fhYF Γ 30 [(0, .ref 39), (1, .ref v1), (2, .int v2), (3, .int v3), (4, .ref v4), (5, .int x.1)] [] x.2) (fun o => fhRet Γ none o))) (fun x o h hk => L_X9_findKnowers_104 hE hΓ hd v1 v2 v3 v4 v5 x.1 hv1 hv4 x.2 o h hk) (v2, σ) _ h hk
  · rw [if_neg hc] at h
    refine fhW.blk fhPF fhLL hΓ [(.aload_n 0, 0), (.aload_n 1, 0), (.iload 6, 0)] (pc' := 52) (lv' := [(0, .ref 39), (1, .ref v1), (2, .int v2), (3, .int v3), (4, .ref v4), (5, .int v5), (6, .int v6)]) (st' := [.int v6, .ref v1, .ref 39]) (σ' := σ) (by decide +kernel) rfl rfl rfl ?_
    refine fhW.callv hΓ mvX2_get ml_9_60 (t := v1) (ci := 2) (av := [.int v6]) (rest := [.ref 39]) (r := (some (.int (fcG σ v1 v6)))) (σ' := σ) (T_X2_get (E := fhEn Γ) (d := fhD Γ - 1) hE (by omega) v1 v6 hv1 σ) (by omega) (by decide +kernel) rfl (fhiC_g hv1) rfl (Nat.le_of_ble_eq_true rfl) rfl ?_
    show fhW fhYF Γ 55 [(0, .ref 39), (1, .ref v1), (2, .int v2), (3, .int v3), (4, .ref v4), (5, .int v5), (6, .int v6)] [.int (fcG σ v1 v6), .ref 39] σ
    refine fhW.blk fhPF fhLL hΓ [(.iload 5, 0)] (pc' := 57) (lv' := [(0, .ref 39), (1, .ref v1), (2, .int v2), (3, .int v3), (4, .ref v4), (5, .int v5), (6, .int v6)]) (st' := [.int v5, .int (fcG σ v1 v6), .ref 39]) (σ' := σ) (by decide +kernel) rfl rfl rfl ?_
    refine fhW.callv hΓ mvX9_viewOf ml_9_106 (t := 39) (ci := 9) (av := [.int (fcG σ v1 v6), .int v5]) (rest := []) (r := (some (.int (f_X9_viewOf (fcG σ v1 v6) v5 σ)))) (σ' := σ) (T_X9_viewOf (E := fhEn Γ) (d := fhD Γ - 1) hE (by omega) (fcG σ v1 v6) v5 σ) (by omega) (by decide +kernel) rfl rfl rfl (Nat.le_of_ble_eq_true rfl) rfl ?_
    show fhW fhYF Γ 60 [(0, .ref 39), (1, .ref v1), (2, .int v2), (3, .int v3), (4, .ref v4), (5, .int v5), (6, .int v6)] [.int (f_X9_viewOf (fcG σ v1 v6) v5 σ)] σ
    refine fhW.blk fhPF fhLL hΓ [(.istore 7, 0), (.aload_n 0, 0), (.getfield 29, 0), (.iload 7, 0), (.aload_n 0, 0), (.getfield 29, 0), (.iload 7, 0)] (pc' := 74) (lv' := [(7, .int (f_X9_viewOf (fcG σ v1 v6) v5 σ)), (0, .ref 39), (1, .ref v1), (2, .int v2), (3, .int v3), (4, .ref v4), (5, .int v5), (6, .int v6)]) (st' := [.int (f_X9_viewOf (fcG σ v1 v6) v5 σ), .ref 48, .int (f_X9_viewOf (fcG σ v1 v6) v5 σ), .ref 48]) (σ' := σ) (by decide +kernel) rfl rfl rfl ?_
    refine fhW.callv hΓ mvX2_get ml_9_60 (t := 48) (ci := 2) (av := [.int (f_X9_viewOf (fcG σ v1 v6) v5 σ)]) (rest := [.int (f_X9_viewOf (fcG σ v1 v6) v5 σ), .ref 48]) (r := (some (.int (fcG σ 48 (f_X9_viewOf (fcG σ v1 v6) v5 σ))))) (σ' := σ) (T_X2_get (E := fhEn Γ) (d := fhD Γ - 1) hE (by omega) 48 (f_X9_viewOf (fcG σ v1 v6) v5 σ) rfl σ) (by omega) (by decide +kernel) rfl rfl rfl (Nat.le_of_ble_eq_true rfl) rfl ?_
    show fhW fhYF Γ 77 [(7, .int (f_X9_viewOf (fcG σ v1 v6) v5 σ)), (0, .ref 39), (1, .ref v1), (2, .int v2), (3, .int v3), (4, .ref v4), (5, .int v5), (6, .int v6)] [.int (fcG σ 48 (f_X9_viewOf (fcG σ v1 v6) v5 σ)), .int (f_X9_viewOf (fcG σ v1 v6) v5 σ), .ref 48] σ
    refine fhW.blk fhPF fhLL hΓ [(.iconst 1, 1), (.aload_n 0, 0), (.aload_n 1, 0), (.iload 6, 0)] (pc' := 82) (lv' := [(7, .int (f_X9_viewOf (fcG σ v1 v6) v5 σ)), (0, .ref 39), (1, .ref v1), (2, .int v2), (3, .int v3), (4, .ref v4), (5, .int v5), (6, .int v6)]) (st' := [.int v6, .ref v1, .ref 39, .int (1 : Int32), .int (fcG σ 48 (f_X9_viewOf (fcG σ v1 v6) v5 σ)), .int (f_X9_viewOf (fcG σ v1 v6) v5 σ), .ref 48]) (σ' := σ) (by decide +kernel) rfl rfl rfl ?_
    refine fhW.callv hΓ mvX2_get ml_9_60 (t := v1) (ci := 2) (av := [.int v6]) (rest := [.ref 39, .int (1 : Int32), .int (fcG σ 48 (f_X9_viewOf (fcG σ v1 v6) v5 σ)), .int (f_X9_viewOf (fcG σ v1 v6) v5 σ), .ref 48]) (r := (some (.int (fcG σ v1 v6)))) (σ' := σ) (T_X2_get (E := fhEn Γ) (d := fhD Γ - 1) hE (by omega) v1 v6 hv1 σ) (by omega) (by decide +kernel) rfl (fhiC_g hv1) rfl (Nat.le_of_ble_eq_true rfl) rfl ?_
    show fhW fhYF Γ 85 [(7, .int (f_X9_viewOf (fcG σ v1 v6) v5 σ)), (0, .ref 39), (1, .ref v1), (2, .int v2), (3, .int v3), (4, .ref v4), (5, .int v5), (6, .int v6)] [.int (fcG σ v1 v6), .ref 39, .int (1 : Int32), .int (fcG σ 48 (f_X9_viewOf (fcG σ v1 v6) v5 σ)), .int (f_X9_viewOf (fcG σ v1 v6) v5 σ), .ref 48] σ
    refine fhW.blk fhPF fhLL hΓ [(.iload 5, 0)] (pc' := 87) (lv' := [(7, .int (f_X9_viewOf (fcG σ v1 v6) v5 σ)), (0, .ref 39), (1, .ref v1), (2, .int v2), (3, .int v3), (4, .ref v4), (5, .int v5), (6, .int v6)]) (st' := [.int v5, .int (fcG σ v1 v6), .ref 39, .int (1 : Int32), .int (fcG σ 48 (f_X9_viewOf (fcG σ v1 v6) v5 σ)), .int (f_X9_viewOf (fcG σ v1 v6) v5 σ), .ref 48]) (σ' := σ) (by decide +kernel) rfl rfl rfl ?_
    refine fhW.callv hΓ mvX9_markOf ml_9_99 (t := 39) (ci := 9) (av := [.int (fcG σ v1 v6), .int v5]) (rest := [.int (1 : Int32), .int (fcG σ 48 (f_X9_viewOf (fcG σ v1 v6) v5 σ)), .int (f_X9_viewOf (fcG σ v1 v6) v5 σ), .ref 48]) (r := (some (.int (f_X9_markOf (fcG σ v1 v6) v5 σ)))) (σ' := σ) (T_X9_markOf (E := fhEn Γ) (d := fhD Γ - 1) hE (by omega) (fcG σ v1 v6) v5 σ) (by omega) (by decide +kernel) rfl rfl rfl (Nat.le_of_ble_eq_true rfl) rfl ?_
    show fhW fhYF Γ 90 [(7, .int (f_X9_viewOf (fcG σ v1 v6) v5 σ)), (0, .ref 39), (1, .ref v1), (2, .int v2), (3, .int v3), (4, .ref v4), (5, .int v5), (6, .int v6)] [.int (f_X9_markOf (fcG σ v1 v6) v5 σ), .int (1 : Int32), .int (fcG σ 48 (f_X9_viewOf (fcG σ v1 v6) v5 σ)), .int (f_X9_viewOf (fcG σ v1 v6) v5 σ), .ref 48] σ
    refine fhW.blk fhPF fhLL hΓ [(.ishl, 0), (.ior, 0)] (pc' := 92) (lv' := [(7, .int (f_X9_viewOf (fcG σ v1 v6) v5 σ)), (0, .ref 39), (1, .ref v1), (2, .int v2), (3, .int v3), (4, .ref v4), (5, .int v5), (6, .int v6)]) (st' := [.int ((fcG σ 48 (f_X9_viewOf (fcG σ v1 v6) v5 σ)) ||| ((1 : Int32) <<< ((f_X9_markOf (fcG σ v1 v6) v5 σ) &&& 31))), .int (f_X9_viewOf (fcG σ v1 v6) v5 σ), .ref 48]) (σ' := σ) (by decide +kernel) rfl rfl rfl ?_
    refine fhW.callv hΓ mvX2_put ml_9_56 (t := 48) (ci := 2) (av := [.int (f_X9_viewOf (fcG σ v1 v6) v5 σ), .int ((fcG σ 48 (f_X9_viewOf (fcG σ v1 v6) v5 σ)) ||| ((1 : Int32) <<< ((f_X9_markOf (fcG σ v1 v6) v5 σ) &&& 31)))]) (rest := []) (r := none) (σ' := (fcP σ 48 (f_X9_viewOf (fcG σ v1 v6) v5 σ) ((fcG σ 48 (f_X9_viewOf (fcG σ v1 v6) v5 σ)) ||| ((1 : Int32) <<< ((f_X9_markOf (fcG σ v1 v6) v5 σ) &&& 31))))) (T_X2_put (E := fhEn Γ) (d := fhD Γ - 1) hE (by omega) 48 (f_X9_viewOf (fcG σ v1 v6) v5 σ) ((fcG σ 48 (f_X9_viewOf (fcG σ v1 v6) v5 σ)) ||| ((1 : Int32) <<< ((f_X9_markOf (fcG σ v1 v6) v5 σ) &&& 31))) rfl σ) (by omega) (by decide +kernel) rfl rfl rfl (Nat.le_of_ble_eq_true rfl) rfl ?_
    show fhW fhYF Γ 95 [(7, .int (f_X9_viewOf (fcG σ v1 v6) v5 σ)), (0, .ref 39), (1, .ref v1), (2, .int v2), (3, .int v3), (4, .ref v4), (5, .int v5), (6, .int v6)] [] (fcP σ 48 (f_X9_viewOf (fcG σ v1 v6) v5 σ) ((fcG σ 48 (f_X9_viewOf (fcG σ v1 v6) v5 σ)) ||| ((1 : Int32) <<< ((f_X9_markOf (fcG σ v1 v6) v5 σ) &&& 31))))
    refine fhW.blk fhPF fhLL hΓ [(.iinc 6 1, 1)] (pc' := 98) (lv' := [(6, .int (v6 + (1 : Int32))), (7, .int (f_X9_viewOf (fcG σ v1 v6) v5 σ)), (0, .ref 39), (1, .ref v1), (2, .int v2), (3, .int v3), (4, .ref v4), (5, .int v5)]) (st' := []) (σ' := (fcP σ 48 (f_X9_viewOf (fcG σ v1 v6) v5 σ) ((fcG σ 48 (f_X9_viewOf (fcG σ v1 v6) v5 σ)) ||| ((1 : Int32) <<< ((f_X9_markOf (fcG σ v1 v6) v5 σ) &&& 31))))) (by decide +kernel) rfl rfl rfl ?_
    refine fhW.goto hΓ (off := (-56)) (tgt := 42) (by decide +kernel) ?_
    refine fhW.sub (lv' := [(0, .ref 39), (1, .ref v1), (2, .int v2), (3, .int v3), (4, .ref v4), (5, .int v5), (6, .int (v6 + (1 : Int32)))]) [2, 3, 4, 5, 6, 7, 0] rfl ?_
    have e9 := Option.some.inj h
    subst e9
    exact hk
set_option maxRecDepth 100000 in
set_option maxHeartbeats 4000000 in
theorem L_X9_findKnowers_30 {Γ : fhX} (hE : fhEok fhYF (fhEn Γ)) (hΓ : fhOk fhYF 9 cX9_findKnowers 8 none Γ) (hd : 2 ≤ fhD Γ) (v1 : Nat) (v2 : Int32) (v3 : Int32) (v4 : Nat) (v5 : Int32) (hv1 : fhiC v1 = true) (hv4 : fhiC v4 = true) (σ : fhM) (o : (Int32 × fhM) ⊕ (fhM)) (h : f_X9_findKnowers_30 v1 v2 v3 v4 v5 σ = some o) (hk : (fhK (fun x => fhW fhYF Γ 30 [(0, .ref 39), (1, .ref v1), (2, .int v2), (3, .int v3), (4, .ref v4), (5, .int x.1)] [] x.2) (fun o => fhRet Γ none o)) o) : fhW fhYF Γ 30 [(0, .ref 39), (1, .ref v1), (2, .int v2), (3, .int v3), (4, .ref v4), (5, .int v5)] [] σ := by
  unfold f_X9_findKnowers_30 at h
  refine fhW.blk fhPF fhLL hΓ [(.iload 5, 0), (.aload_n 0, 0), (.getfield 51, 0)] (pc' := 36) (lv' := [(0, .ref 39), (1, .ref v1), (2, .int v2), (3, .int v3), (4, .ref v4), (5, .int v5)]) (st' := [.int (σ.1 39 9), .int v5]) (σ' := σ) (by decide +kernel) rfl rfl rfl ?_
  refine fhW.i_ge hΓ (tgt := 206) (show fhbk _ _ (.if_icmp .ge (170)) _ = true by decide +kernel) (fun hc => ?_) (fun hc => ?_)
  · rw [if_pos hc] at h
    have e9 := Option.some.inj h
    subst e9
    exact fhW.vret hΓ (by decide +kernel) hk
  · rw [if_neg hc] at h
    refine fhW.blk fhPF fhLL hΓ [(.iload_n 2, 0), (.istore 6, 0)] (pc' := 42) (lv' := [(6, .int v2), (0, .ref 39), (1, .ref v1), (2, .int v2), (3, .int v3), (4, .ref v4), (5, .int v5)]) (st' := []) (σ' := σ) (by decide +kernel) rfl rfl rfl ?_
    refine fhW.sub (lv' := [(0, .ref 39), (1, .ref v1), (2, .int v2), (3, .int v3), (4, .ref v4), (5, .int v5), (6, .int v2)]) [1, 2, 3, 4, 5, 6, 0] rfl ?_
    exact fhlp_ok (W := (fun x => fhW fhYF Γ 42 [(0, .ref 39), (1, .ref v1), (2, .int v2), (3, .int v3), (4, .ref v4), (5, .int v5), (6, .int x.1)] [] x.2)) (B := (fhK (fun x => fhW fhYF Γ 30 [(0, .ref 39), (1, .ref v1), (2, .int v2), (3, .int v3), (4, .ref v4), (5, .int x.1)] [] x.2) (fun o => fhRet Γ none o))) (fun x o h hk => L_X9_findKnowers_42 hE hΓ hd v1 v2 v3 v4 v5 x.1 hv1 hv4 x.2 o h hk) (v2, σ) _ h hk
set_option maxRecDepth 100000 in
set_option maxHeartbeats 4000000 in
theorem L_X9_findKnowers_3 {Γ : fhX} (hE : fhEok fhYF (fhEn Γ)) (hΓ : fhOk fhYF 9 cX9_findKnowers 8 none Γ) (hd : 2 ≤ fhD Γ) (v1 : Nat) (v2 : Int32) (v3 : Int32) (v4 : Nat) (v5 : Int32) (hv1 : fhiC v1 = true) (hv4 : fhiC v4 = true) (σ : fhM) (o : (Int32 × fhM) ⊕ (fhM)) (h : f_X9_findKnowers_3 v1 v2 v3 v4 v5 σ = some o) (hk : (fhK (fun x => fhW fhYF Γ 3 [(0, .ref 39), (1, .ref v1), (2, .int v2), (3, .int v3), (4, .ref v4), (5, .int x.1)] [] x.2) (fun o => fhRet Γ none o)) o) : fhW fhYF Γ 3 [(0, .ref 39), (1, .ref v1), (2, .int v2), (3, .int v3), (4, .ref v4), (5, .int v5)] [] σ := by
  unfold f_X9_findKnowers_3 at h
  refine fhW.blk fhPF fhLL hΓ [(.iload 5, 0), (.iload_n 3, 0)] (pc' := 6) (lv' := [(0, .ref 39), (1, .ref v1), (2, .int v2), (3, .int v3), (4, .ref v4), (5, .int v5)]) (st' := [.int v3, .int v5]) (σ' := σ) (by decide +kernel) rfl rfl rfl ?_
  refine fhW.i_ge hΓ (tgt := 27) (show fhbk _ _ (.if_icmp .ge (21)) _ = true by decide +kernel) (fun hc => ?_) (fun hc => ?_)
  · rw [if_pos hc] at h
    refine fhW.blk fhPF fhLL hΓ [(.iconst 0, 0), (.istore 5, 0)] (pc' := 30) (lv' := [(5, .int (0 : Int32)), (0, .ref 39), (1, .ref v1), (2, .int v2), (3, .int v3), (4, .ref v4)]) (st' := []) (σ' := σ) (by decide +kernel) rfl rfl rfl ?_
    refine fhW.sub (lv' := [(0, .ref 39), (1, .ref v1), (2, .int v2), (3, .int v3), (4, .ref v4), (5, .int (0 : Int32))]) [1, 2, 3, 4, 5, 0] rfl ?_
    obtain ⟨z3, hz, e3⟩ := Option.map_eq_some_iff.mp h
    clear h
    subst e3
    have h := hz
    have hk : (fun o => fhRet Γ none o) z3 := hk
    exact fhlp_ok (W := (fun x => fhW fhYF Γ 30 [(0, .ref 39), (1, .ref v1), (2, .int v2), (3, .int v3), (4, .ref v4), (5, .int x.1)] [] x.2)) (B := (fun o => fhRet Γ none o)) (fun x o h hk => L_X9_findKnowers_30 hE hΓ hd v1 v2 v3 v4 x.1 hv1 hv4 x.2 o h hk) ((0 : Int32), σ) _ h hk
  · rw [if_neg hc] at h
    refine fhW.blk fhPF fhLL hΓ [(.aload 4, 0), (.aload_n 1, 0), (.iload 5, 0)] (pc' := 14) (lv' := [(0, .ref 39), (1, .ref v1), (2, .int v2), (3, .int v3), (4, .ref v4), (5, .int v5)]) (st' := [.int v5, .ref v1, .ref v4]) (σ' := σ) (by decide +kernel) rfl rfl rfl ?_
    refine fhW.callv hΓ mvX2_get ml_9_60 (t := v1) (ci := 2) (av := [.int v5]) (rest := [.ref v4]) (r := (some (.int (fcG σ v1 v5)))) (σ' := σ) (T_X2_get (E := fhEn Γ) (d := fhD Γ - 1) hE (by omega) v1 v5 hv1 σ) (by omega) (by decide +kernel) rfl (fhiC_g hv1) rfl (Nat.le_of_ble_eq_true rfl) rfl ?_
    show fhW fhYF Γ 17 [(0, .ref 39), (1, .ref v1), (2, .int v2), (3, .int v3), (4, .ref v4), (5, .int v5)] [.int (fcG σ v1 v5), .ref v4] σ
    refine fhW.blk fhPF fhLL hΓ [(.iconst 0, 0)] (pc' := 18) (lv' := [(0, .ref 39), (1, .ref v1), (2, .int v2), (3, .int v3), (4, .ref v4), (5, .int v5)]) (st' := [.int (0 : Int32), .int (fcG σ v1 v5), .ref v4]) (σ' := σ) (by decide +kernel) rfl rfl rfl ?_
    refine fhW.callv hΓ mvX2_put ml_9_56 (t := v4) (ci := 2) (av := [.int (fcG σ v1 v5), .int (0 : Int32)]) (rest := []) (r := none) (σ' := (fcP σ v4 (fcG σ v1 v5) (0 : Int32))) (T_X2_put (E := fhEn Γ) (d := fhD Γ - 1) hE (by omega) v4 (fcG σ v1 v5) (0 : Int32) hv4 σ) (by omega) (by decide +kernel) rfl (fhiC_g hv4) rfl (Nat.le_of_ble_eq_true rfl) rfl ?_
    show fhW fhYF Γ 21 [(0, .ref 39), (1, .ref v1), (2, .int v2), (3, .int v3), (4, .ref v4), (5, .int v5)] [] (fcP σ v4 (fcG σ v1 v5) (0 : Int32))
    refine fhW.blk fhPF fhLL hΓ [(.iinc 5 1, 1)] (pc' := 24) (lv' := [(5, .int (v5 + (1 : Int32))), (0, .ref 39), (1, .ref v1), (2, .int v2), (3, .int v3), (4, .ref v4)]) (st' := []) (σ' := (fcP σ v4 (fcG σ v1 v5) (0 : Int32))) (by decide +kernel) rfl rfl rfl ?_
    refine fhW.goto hΓ (off := (-21)) (tgt := 3) (by decide +kernel) ?_
    refine fhW.sub (lv' := [(0, .ref 39), (1, .ref v1), (2, .int v2), (3, .int v3), (4, .ref v4), (5, .int (v5 + (1 : Int32)))]) [1, 2, 3, 4, 5, 0] rfl ?_
    have e9 := Option.some.inj h
    subst e9
    exact hk
set_option maxRecDepth 100000 in
set_option maxHeartbeats 4000000 in
theorem L_X9_findKnowers_E {Γ : fhX} (hE : fhEok fhYF (fhEn Γ)) (hΓ : fhOk fhYF 9 cX9_findKnowers 8 none Γ) (hd : 2 ≤ fhD Γ) (v1 : Nat) (v2 : Int32) (v3 : Int32) (v4 : Nat) (hv1 : fhiC v1 = true) (hv4 : fhiC v4 = true) (σ : fhM) (o : fhM) (h : f_X9_findKnowers v1 v2 v3 v4 σ = some o) (hk : (fun o => fhRet Γ none o) o) : fhW fhYF Γ 0 [(0, .ref 39), (1, .ref v1), (2, .int v2), (3, .int v3), (4, .ref v4)] [] σ := by
  unfold f_X9_findKnowers at h
  refine fhW.blk fhPF fhLL hΓ [(.iload_n 2, 0), (.istore 5, 0)] (pc' := 3) (lv' := [(5, .int v2), (0, .ref 39), (1, .ref v1), (2, .int v2), (3, .int v3), (4, .ref v4)]) (st' := []) (σ' := σ) (by decide +kernel) rfl rfl rfl ?_
  refine fhW.sub (lv' := [(0, .ref 39), (1, .ref v1), (2, .int v2), (3, .int v3), (4, .ref v4), (5, .int v2)]) [1, 2, 3, 4, 5, 0] rfl ?_
  exact fhlp_ok (W := (fun x => fhW fhYF Γ 3 [(0, .ref 39), (1, .ref v1), (2, .int v2), (3, .int v3), (4, .ref v4), (5, .int x.1)] [] x.2)) (B := (fun o => fhRet Γ none o)) (fun x o h hk => L_X9_findKnowers_3 hE hΓ hd v1 v2 v3 v4 x.1 hv1 hv4 x.2 o h hk) (v2, σ) _ h hk
set_option maxRecDepth 100000 in
theorem T_X9_findKnowers {E : fhE} {d : Nat} (hE : fhEok fhYF E) (hd : 2 ≤ d) (v1 : Nat) (v2 : Int32) (v3 : Int32) (v4 : Nat) (hv1 : fhiC v1 = true) (hv4 : fhiC v4 = true) (σ : fhM) {o : fhM} (h : f_X9_findKnowers v1 v2 v3 v4 σ = some o) : fhC fhYF E d miX9_findKnowers [.ref 39, .ref v1, .int v2, .int v3, .ref v4] σ none o := by
  refine fhC.of (y := yX9_findKnowers) (cc := cX9_findKnowers) (nL := 8) (ret := none) 9 rfl (by decide +kernel) (Nat.le_of_ble_eq_true rfl) ?_
  intro Γ hΓ hR hD hEn
  subst hD; subst hEn
  exact L_X9_findKnowers_E hE hΓ hd v1 v2 v3 v4 hv1 hv4 σ _ h hR
set_option maxRecDepth 100000 in
set_option maxHeartbeats 4000000 in
theorem L_X0_forget_E {Γ : fhX} (hE : fhEok fhYF (fhEn Γ)) (hΓ : fhOk fhYF 0 cX0_forget 1 none Γ) (hd : 0 ≤ fhD Γ)   (σ : fhM) (o : fhM) (h : f_X0_forget σ = o) (hk : (fun o => fhRet Γ none o) o) : fhW fhYF Γ 0 [(0, .ref 57)] [] σ := by
  unfold f_X0_forget at h
  refine fhW.blk fhPF fhLL hΓ [(.aload_n 0, 0), (.iconst 0, 0), (.putfield 26, 0)] (pc' := 5) (lv' := [(0, .ref 57)]) (st' := []) (σ' := (fhI σ 57 3 (0 : Int32))) (by decide +kernel) rfl rfl rfl ?_
  subst h
  exact fhW.vret hΓ (by decide +kernel) hk
set_option maxRecDepth 100000 in
theorem T_X0_forget {E : fhE} {d : Nat} (hE : fhEok fhYF E) (hd : 0 ≤ d)   (σ : fhM) : fhC fhYF E d miX0_forget [.ref 57] σ none (f_X0_forget σ) := by
  refine fhC.of (y := yX0_forget) (cc := cX0_forget) (nL := 1) (ret := none) 0 rfl (by decide +kernel) (Nat.le_of_ble_eq_true rfl) ?_
  intro Γ hΓ hR hD hEn
  subst hD; subst hEn
  exact L_X0_forget_E hE hΓ hd   σ _ rfl hR
set_option maxRecDepth 100000 in
set_option maxHeartbeats 4000000 in
theorem L_X4_settle_E {Γ : fhX} (hE : fhEok fhYF (fhEn Γ)) (hΓ : fhOk fhYF 4 cX4_settle 1 none Γ) (hd : 3 ≤ fhD Γ)   (σ : fhM) (o : fhM) (h : f_X4_settle σ = some o) (hk : (fun o => fhRet Γ none o) o) : fhW fhYF Γ 0 [(0, .ref 56)] [] σ := by
  unfold f_X4_settle at h
  refine fhW.blk fhPF fhLL hΓ [(.aload_n 0, 0), (.getfield 42, 0), (.aload_n 0, 0), (.getfield 36, 0), (.iconst 0, 0), (.aload_n 0, 0), (.getfield 63, 0), (.aload_n 0, 0), (.getfield 39, 0)] (pc' := 17) (lv' := [(0, .ref 56)]) (st' := [.ref 74, .int (σ.1 56 8), .int (0 : Int32), .ref 72, .ref 39]) (σ' := σ) (by decide +kernel) rfl rfl rfl ?_
  obtain ⟨q1, hb1, h⟩ := Option.bind_eq_some_iff.mp h
  refine fhW.callv hΓ mvX9_findKnowers ml_4_75 (t := 39) (ci := 9) (av := [.ref 72, .int (0 : Int32), .int (σ.1 56 8), .ref 74]) (rest := []) (r := none) (σ' := q1) (T_X9_findKnowers (E := fhEn Γ) (d := fhD Γ - 1) hE (by omega) 72 (0 : Int32) (σ.1 56 8) 74 rfl rfl σ hb1) (by omega) (by decide +kernel) rfl rfl rfl (Nat.le_of_ble_eq_true rfl) rfl ?_
  show fhW fhYF Γ 20 [(0, .ref 56)] [] q1
  refine fhW.blk fhPF fhLL hΓ [(.aload_n 0, 0), (.getfield 12, 0)] (pc' := 24) (lv' := [(0, .ref 56)]) (st' := [.ref 57]) (σ' := q1) (by decide +kernel) rfl rfl rfl ?_
  refine fhW.callv hΓ mvX0_forget ml_4_79 (t := 57) (ci := 0) (av := []) (rest := []) (r := none) (σ' := (f_X0_forget q1)) (T_X0_forget (E := fhEn Γ) (d := fhD Γ - 1) hE (by omega) q1) (by omega) (by decide +kernel) rfl rfl rfl (Nat.le_of_ble_eq_true rfl) rfl ?_
  show fhW fhYF Γ 27 [(0, .ref 56)] [] (f_X0_forget q1)
  obtain ⟨q2, e1, h⟩ := fhlet_elim h
  rw [← e1]
  have e9 := Option.some.inj h
  subst e9
  exact fhW.vret hΓ (by decide +kernel) hk
set_option maxRecDepth 100000 in
theorem T_X4_settle {E : fhE} {d : Nat} (hE : fhEok fhYF E) (hd : 3 ≤ d)   (σ : fhM) {o : fhM} (h : f_X4_settle σ = some o) : fhC fhYF E d miX4_settle [.ref 56] σ none o := by
  refine fhC.of (y := yX4_settle) (cc := cX4_settle) (nL := 1) (ret := none) 4 rfl (by decide +kernel) (Nat.le_of_ble_eq_true rfl) ?_
  intro Γ hΓ hR hD hEn
  subst hD; subst hEn
  exact L_X4_settle_E hE hΓ hd   σ _ h hR
set_option maxRecDepth 100000 in
set_option maxHeartbeats 4000000 in
theorem L_X4_begin_2 {Γ : fhX} (hE : fhEok fhYF (fhEn Γ)) (hΓ : fhOk fhYF 4 cX4_begin 3 none Γ) (hd : 4 ≤ fhD Γ) (v1 : Int32) (v2 : Int32)  (σ : fhM) (o : (Int32 × fhM) ⊕ (fhM)) (h : f_X4_begin_2 v1 v2 σ = some o) (hk : (fhK (fun x => fhW fhYF Γ 2 [(0, .ref 56), (1, .int v1), (2, .int x.1)] [] x.2) (fun o => fhRet Γ none o)) o) : fhW fhYF Γ 2 [(0, .ref 56), (1, .int v1), (2, .int v2)] [] σ := by
  unfold f_X4_begin_2 at h
  refine fhW.blk fhPF fhLL hΓ [(.iload_n 2, 0), (.aload_n 0, 0), (.getfield 42, 0), (.getfield 46, 0)] (pc' := 10) (lv' := [(0, .ref 56), (1, .int v1), (2, .int v2)]) (st' := [.int (σ.1 39 12), .int v2]) (σ' := σ) (by decide +kernel) rfl rfl rfl ?_
  refine fhW.i_ge hΓ (tgt := 38) (show fhbk _ _ (.if_icmp .ge (28)) _ = true by decide +kernel) (fun hc => ?_) (fun hc => ?_)
  · rw [if_pos hc] at h
    refine fhW.blk fhPF fhLL hΓ [(.aload_n 0, 0), (.aload_n 0, 0), (.getfield 42, 0), (.getfield 46, 0), (.putfield 63, 0), (.aload_n 0, 0), (.iconst 0, 0), (.putfield 66, 0), (.aload_n 0, 0), (.iload_n 1, 0), (.putfield 69, 0), (.aload_n 0, 0)] (pc' := 60) (lv' := [(0, .ref 56), (1, .int v1), (2, .int v2)]) (st' := [.ref 56]) (σ' := (fhI (fhI (fhI σ 56 8 (σ.1 39 12)) 56 10 (0 : Int32)) 56 9 v1)) (by decide +kernel) rfl rfl rfl ?_
    obtain ⟨q1, hb1, h⟩ := Option.bind_eq_some_iff.mp h
    refine fhW.callv hΓ mvX4_settle ml_4_72 (t := 56) (ci := 4) (av := []) (rest := []) (r := none) (σ' := q1) (T_X4_settle (E := fhEn Γ) (d := fhD Γ - 1) hE (by omega) (fhI (fhI (fhI σ 56 8 (σ.1 39 12)) 56 10 (0 : Int32)) 56 9 v1) hb1) (by omega) (by decide +kernel) rfl rfl rfl (Nat.le_of_ble_eq_true rfl) rfl ?_
    show fhW fhYF Γ 63 [(0, .ref 56), (1, .int v1), (2, .int v2)] [] q1
    have e9 := Option.some.inj h
    subst e9
    exact fhW.vret hΓ (by decide +kernel) hk
  · rw [if_neg hc] at h
    refine fhW.blk fhPF fhLL hΓ [(.aload_n 0, 0), (.getfield 36, 0), (.iload_n 2, 0), (.aload_n 0, 0), (.getfield 42, 0), (.getfield 52, 0), (.iload_n 2, 0)] (pc' := 26) (lv' := [(0, .ref 56), (1, .int v1), (2, .int v2)]) (st' := [.int v2, .ref 54, .int v2, .ref 72]) (σ' := σ) (by decide +kernel) rfl rfl rfl ?_
    refine fhW.callv hΓ mvX2_get ml_4_55 (t := 54) (ci := 2) (av := [.int v2]) (rest := [.int v2, .ref 72]) (r := (some (.int (fcG σ 54 v2)))) (σ' := σ) (T_X2_get (E := fhEn Γ) (d := fhD Γ - 1) hE (by omega) 54 v2 rfl σ) (by omega) (by decide +kernel) rfl rfl rfl (Nat.le_of_ble_eq_true rfl) rfl ?_
    show fhW fhYF Γ 29 [(0, .ref 56), (1, .int v1), (2, .int v2)] [.int (fcG σ 54 v2), .int v2, .ref 72] σ
    refine fhW.callv hΓ mvX2_put ml_4_59 (t := 72) (ci := 2) (av := [.int v2, .int (fcG σ 54 v2)]) (rest := []) (r := none) (σ' := (fcP σ 72 v2 (fcG σ 54 v2))) (T_X2_put (E := fhEn Γ) (d := fhD Γ - 1) hE (by omega) 72 v2 (fcG σ 54 v2) rfl σ) (by omega) (by decide +kernel) rfl rfl rfl (Nat.le_of_ble_eq_true rfl) rfl ?_
    show fhW fhYF Γ 32 [(0, .ref 56), (1, .int v1), (2, .int v2)] [] (fcP σ 72 v2 (fcG σ 54 v2))
    refine fhW.blk fhPF fhLL hΓ [(.iinc 2 1, 1)] (pc' := 35) (lv' := [(2, .int (v2 + (1 : Int32))), (0, .ref 56), (1, .int v1)]) (st' := []) (σ' := (fcP σ 72 v2 (fcG σ 54 v2))) (by decide +kernel) rfl rfl rfl ?_
    refine fhW.goto hΓ (off := (-33)) (tgt := 2) (by decide +kernel) ?_
    refine fhW.sub (lv' := [(0, .ref 56), (1, .int v1), (2, .int (v2 + (1 : Int32)))]) [1, 2, 0] rfl ?_
    have e9 := Option.some.inj h
    subst e9
    exact hk
set_option maxRecDepth 100000 in
set_option maxHeartbeats 4000000 in
theorem L_X4_begin_E {Γ : fhX} (hE : fhEok fhYF (fhEn Γ)) (hΓ : fhOk fhYF 4 cX4_begin 3 none Γ) (hd : 4 ≤ fhD Γ) (v1 : Int32)  (σ : fhM) (o : fhM) (h : f_X4_begin v1 σ = some o) (hk : (fun o => fhRet Γ none o) o) : fhW fhYF Γ 0 [(0, .ref 56), (1, .int v1)] [] σ := by
  unfold f_X4_begin at h
  refine fhW.blk fhPF fhLL hΓ [(.iconst 0, 0), (.istore_n 2, 0)] (pc' := 2) (lv' := [(2, .int (0 : Int32)), (0, .ref 56), (1, .int v1)]) (st' := []) (σ' := σ) (by decide +kernel) rfl rfl rfl ?_
  refine fhW.sub (lv' := [(0, .ref 56), (1, .int v1), (2, .int (0 : Int32))]) [1, 2, 0] rfl ?_
  exact fhlp_ok (W := (fun x => fhW fhYF Γ 2 [(0, .ref 56), (1, .int v1), (2, .int x.1)] [] x.2)) (B := (fun o => fhRet Γ none o)) (fun x o h hk => L_X4_begin_2 hE hΓ hd v1 x.1 x.2 o h hk) ((0 : Int32), σ) _ h hk
set_option maxRecDepth 100000 in
theorem T_X4_begin {E : fhE} {d : Nat} (hE : fhEok fhYF E) (hd : 4 ≤ d) (v1 : Int32)  (σ : fhM) {o : fhM} (h : f_X4_begin v1 σ = some o) : fhC fhYF E d miX4_begin [.ref 56, .int v1] σ none o := by
  refine fhC.of (y := yX4_begin) (cc := cX4_begin) (nL := 3) (ret := none) 4 rfl (by decide +kernel) (Nat.le_of_ble_eq_true rfl) ?_
  intro Γ hΓ hR hD hEn
  subst hD; subst hEn
  exact L_X4_begin_E hE hΓ hd v1  σ _ h hR
set_option maxRecDepth 100000 in
set_option maxHeartbeats 4000000 in
theorem L_X1_forget_E {Γ : fhX} (hE : fhEok fhYF (fhEn Γ)) (hΓ : fhOk fhYF 1 cX1_forget 1 none Γ) (hd : 0 ≤ fhD Γ)   (σ : fhM) (o : fhM) (h : f_X1_forget σ = o) (hk : (fun o => fhRet Γ none o) o) : fhW fhYF Γ 0 [(0, .ref 76)] [] σ := by
  unfold f_X1_forget at h
  refine fhW.blk fhPF fhLL hΓ [(.aload_n 0, 0), (.iconst 0, 0), (.putfield 45, 0), (.aload_n 0, 0), (.iconst 0, 0), (.putfield 49, 0)] (pc' := 10) (lv' := [(0, .ref 76)]) (st' := []) (σ' := (fhI (fhI σ 76 9 (0 : Int32)) 76 13 (0 : Int32))) (by decide +kernel) rfl rfl rfl ?_
  subst h
  exact fhW.vret hΓ (by decide +kernel) hk
set_option maxRecDepth 100000 in
theorem T_X1_forget {E : fhE} {d : Nat} (hE : fhEok fhYF E) (hd : 0 ≤ d)   (σ : fhM) : fhC fhYF E d miX1_forget [.ref 76] σ none (f_X1_forget σ) := by
  refine fhC.of (y := yX1_forget) (cc := cX1_forget) (nL := 1) (ret := none) 1 rfl (by decide +kernel) (Nat.le_of_ble_eq_true rfl) ?_
  intro Γ hΓ hR hD hEn
  subst hD; subst hEn
  exact L_X1_forget_E hE hΓ hd   σ _ rfl hR
set_option maxRecDepth 100000 in
set_option maxHeartbeats 4000000 in
theorem L_X6_wipe_E {Γ : fhX} (hE : fhEok fhYF (fhEn Γ)) (hΓ : fhOk fhYF 6 cX6_wipe 1 none Γ) (hd : 0 ≤ fhD Γ)   (σ : fhM) (o : fhM) (h : f_X6_wipe σ = o) (hk : (fun o => fhRet Γ none o) o) : fhW fhYF Γ 0 [(0, .ref 93)] [] σ := by
  unfold f_X6_wipe at h
  refine fhW.blk fhPF fhLL hΓ [(.aload_n 0, 0), (.iconst 0, 0), (.putfield 23, 0), (.aload_n 0, 0), (.iconst 0, 0), (.putfield 27, 0), (.aload_n 0, 0), (.iconst 0, 0), (.putfield 30, 0)] (pc' := 15) (lv' := [(0, .ref 93)]) (st' := []) (σ' := (fhI (fhI (fhI σ 93 1 (0 : Int32)) 93 3 (0 : Int32)) 93 4 (0 : Int32))) (by decide +kernel) rfl rfl rfl ?_
  subst h
  exact fhW.vret hΓ (by decide +kernel) hk
set_option maxRecDepth 100000 in
theorem T_X6_wipe {E : fhE} {d : Nat} (hE : fhEok fhYF E) (hd : 0 ≤ d)   (σ : fhM) : fhC fhYF E d miX6_wipe [.ref 93] σ none (f_X6_wipe σ) := by
  refine fhC.of (y := yX6_wipe) (cc := cX6_wipe) (nL := 1) (ret := none) 6 rfl (by decide +kernel) (Nat.le_of_ble_eq_true rfl) ?_
  intro Γ hΓ hR hD hEn
  subst hD; subst hEn
  exact L_X6_wipe_E hE hΓ hd   σ _ rfl hR
set_option maxRecDepth 100000 in
set_option maxHeartbeats 4000000 in
theorem L_X11_fault_E {Γ : fhX} (hE : fhEok fhYF (fhEn Γ)) (hΓ : fhOk fhYF 11 cX11_fault 2 (some .int) Γ) (hd : 0 ≤ fhD Γ) (v1 : Int32)  (σ : fhM) (o : Int32) (h : f_X11_fault v1 σ = o) (hk : (fun o => fhRet Γ (some (.int o)) σ) o) : fhW fhYF Γ 0 [(0, .ref 0), (1, .int v1)] [] σ := by
  unfold f_X11_fault at h
  refine fhW.blk fhPF fhLL hΓ [(.iload_n 1, 0)] (pc' := 1) (lv' := [(0, .ref 0), (1, .int v1)]) (st' := [.int v1]) (σ' := σ) (by decide +kernel) rfl rfl rfl ?_
  refine fhW.lsw hΓ (dflt := 37) (ps := #[(0, 27), (1, 32)]) (len := 27) (td := 38) [(0, 28), (1, 33)] (by decide +kernel) ?_
  refine fhsw_c (fun hc => ?_) (fun hc => ?_)
  · rw [if_pos hc] at h
    refine fhW.blk fhPF fhLL hΓ [(.aload_n 0, 0), (.getfield 142, 0)] (pc' := 32) (lv' := [(0, .ref 0), (1, .int v1)]) (st' := [.int (σ.1 0 17)]) (σ' := σ) (by decide +kernel) rfl rfl rfl ?_
    subst h
    exact fhW.iret hΓ (by decide +kernel) hk
  rw [if_neg hc] at h
  refine fhsw_c (fun hc => ?_) (fun hc => ?_)
  · rw [if_pos hc] at h
    refine fhW.blk fhPF fhLL hΓ [(.aload_n 0, 0), (.getfield 100, 0)] (pc' := 37) (lv' := [(0, .ref 0), (1, .int v1)]) (st' := [.int (σ.1 0 18)]) (σ' := σ) (by decide +kernel) rfl rfl rfl ?_
    subst h
    exact fhW.iret hΓ (by decide +kernel) hk
  rw [if_neg hc] at h
  refine fhsw_n ?_
  refine fhW.blk fhPF fhLL hΓ [(.iconst (-1), -1)] (pc' := 39) (lv' := [(0, .ref 0), (1, .int v1)]) (st' := [.int (-1 : Int32)]) (σ' := σ) (by decide +kernel) rfl rfl rfl ?_
  subst h
  exact fhW.iret hΓ (by decide +kernel) hk
set_option maxRecDepth 100000 in
theorem T_X11_fault {E : fhE} {d : Nat} (hE : fhEok fhYF E) (hd : 0 ≤ d) (v1 : Int32)  (σ : fhM) : fhC fhYF E d miX11_fault [.ref 0, .int v1] σ (some (.int (f_X11_fault v1 σ))) σ := by
  refine fhC.of (y := yX11_fault) (cc := cX11_fault) (nL := 2) (ret := (some .int)) 11 rfl (by decide +kernel) (Nat.le_of_ble_eq_true rfl) ?_
  intro Γ hΓ hR hD hEn
  subst hD; subst hEn
  exact L_X11_fault_E hE hΓ hd v1  σ _ rfl hR
set_option maxRecDepth 100000 in
set_option maxHeartbeats 4000000 in
theorem L_X4_knowers_E {Γ : fhX} (hE : fhEok fhYF (fhEn Γ)) (hΓ : fhOk fhYF 4 cX4_knowers 1 (some .int) Γ) (hd : 1 ≤ fhD Γ)   (σ : fhM) (o : Int32) (h : f_X4_knowers σ = o) (hk : (fun o => fhRet Γ (some (.int o)) σ) o) : fhW fhYF Γ 0 [(0, .ref 56)] [] σ := by
  unfold f_X4_knowers at h
  refine fhW.blk fhPF fhLL hΓ [(.aload_n 0, 0), (.getfield 63, 0)] (pc' := 4) (lv' := [(0, .ref 56)]) (st' := [.int (σ.1 56 8)]) (σ' := σ) (by decide +kernel) rfl rfl rfl ?_
  refine fhW.z_le hΓ (tgt := 21) (show fhbk _ _ (.ifCond .le (17)) _ = true by decide +kernel) (fun hc => ?_) (fun hc => ?_)
  · rw [if_pos hc] at h
    refine fhW.blk fhPF fhLL hΓ [(.iconst 0, 0)] (pc' := 22) (lv' := [(0, .ref 56)]) (st' := [.int (0 : Int32)]) (σ' := σ) (by decide +kernel) rfl rfl rfl ?_
    subst h
    exact fhW.iret hΓ (by decide +kernel) hk
  · rw [if_neg hc] at h
    refine fhW.blk fhPF fhLL hΓ [(.aload_n 0, 0), (.getfield 39, 0), (.aload_n 0, 0), (.getfield 69, 0)] (pc' := 15) (lv' := [(0, .ref 56)]) (st' := [.int (σ.1 56 9), .ref 74]) (σ' := σ) (by decide +kernel) rfl rfl rfl ?_
    refine fhW.callv hΓ mvX2_get ml_4_55 (t := 74) (ci := 2) (av := [.int (σ.1 56 9)]) (rest := []) (r := (some (.int (fcG σ 74 (σ.1 56 9))))) (σ' := σ) (T_X2_get (E := fhEn Γ) (d := fhD Γ - 1) hE (by omega) 74 (σ.1 56 9) rfl σ) (by omega) (by decide +kernel) rfl rfl rfl (Nat.le_of_ble_eq_true rfl) rfl ?_
    show fhW fhYF Γ 18 [(0, .ref 56)] [.int (fcG σ 74 (σ.1 56 9))] σ
    refine fhW.goto hΓ (off := 4) (tgt := 22) (by decide +kernel) ?_
    subst h
    exact fhW.iret hΓ (by decide +kernel) hk
set_option maxRecDepth 100000 in
theorem T_X4_knowers {E : fhE} {d : Nat} (hE : fhEok fhYF E) (hd : 1 ≤ d)   (σ : fhM) : fhC fhYF E d miX4_knowers [.ref 56] σ (some (.int (f_X4_knowers σ))) σ := by
  refine fhC.of (y := yX4_knowers) (cc := cX4_knowers) (nL := 1) (ret := (some .int)) 4 rfl (by decide +kernel) (Nat.le_of_ble_eq_true rfl) ?_
  intro Γ hΓ hR hD hEn
  subst hD; subst hEn
  exact L_X4_knowers_E hE hΓ hd   σ _ rfl hR

