set_option maxRecDepth 100000 in
set_option maxHeartbeats 4000000 in
theorem L_X1_noteKnowers_83 {Γ : fhX} (hE : fhEok fhYF (fhEn Γ)) (hΓ : fhOk fhYF 1 cX1_noteKnowers 8 none Γ) (hd : 1 ≤ fhD Γ) (v2 : Int32) (v3 : Int32) (v4 : Int32) (v5 : Int32) (v6 : Int32)  (σ : fhM) (o : (Int32 × fhM) ⊕ ((Int32 × fhM) ⊕ (fhM))) (h : f_X1_noteKnowers_83 v2 v3 v4 v5 v6 σ = some o) (hk : (fhK (fun x => fhW fhYF Γ 23 [(0, .ref 76), (2, .int v2), (3, .int v3), (4, .int v4), (5, .int v5), (6, .int x.1)] [] x.2) (fhK (fun x => fhW fhYF Γ 3 [(0, .ref 76), (2, .int v2), (3, .int v3), (4, .int x.1)] [] x.2) (fun o => fhRet Γ none o))) o) : fhW fhYF Γ 83 [(0, .ref 76), (2, .int v2), (3, .int v3), (4, .int v4), (5, .int v5), (6, .int v6)] [] σ := by
  unfold f_X1_noteKnowers_83 at h
  refine fhW.blk fhPF fhLL hΓ [(.iinc 6 1, 1)] (pc' := 86) (lv' := [(6, .int (v6 + (1 : Int32))), (0, .ref 76), (2, .int v2), (3, .int v3), (4, .int v4), (5, .int v5)]) (st' := []) (σ' := σ) (by decide +kernel) rfl rfl rfl ?_
  refine fhW.goto hΓ (off := (-63)) (tgt := 23) (by decide +kernel) ?_
  refine fhW.sub (lv' := [(0, .ref 76), (2, .int v2), (3, .int v3), (4, .int v4), (5, .int v5), (6, .int (v6 + (1 : Int32)))]) [1, 2, 3, 4, 5, 0] rfl ?_
  have e9 := Option.some.inj h
  subst e9
  exact hk
set_option maxRecDepth 100000 in
set_option maxHeartbeats 4000000 in
theorem L_X1_noteKnowers_23 {Γ : fhX} (hE : fhEok fhYF (fhEn Γ)) (hΓ : fhOk fhYF 1 cX1_noteKnowers 8 none Γ) (hd : 1 ≤ fhD Γ) (v2 : Int32) (v3 : Int32) (v4 : Int32) (v5 : Int32) (v6 : Int32)  (σ : fhM) (o : (Int32 × fhM) ⊕ ((Int32 × fhM) ⊕ (fhM))) (h : f_X1_noteKnowers_23 v2 v3 v4 v5 v6 σ = some o) (hk : (fhK (fun x => fhW fhYF Γ 23 [(0, .ref 76), (2, .int v2), (3, .int v3), (4, .int v4), (5, .int v5), (6, .int x.1)] [] x.2) (fhK (fun x => fhW fhYF Γ 3 [(0, .ref 76), (2, .int v2), (3, .int v3), (4, .int x.1)] [] x.2) (fun o => fhRet Γ none o))) o) : fhW fhYF Γ 23 [(0, .ref 76), (2, .int v2), (3, .int v3), (4, .int v4), (5, .int v5), (6, .int v6)] [] σ := by
  unfold f_X1_noteKnowers_23 at h
  refine fhW.blk fhPF fhLL hΓ [(.iload 6, 0), (.aload_n 0, 0), (.getfield 41, 0), (.getfield 92, 0)] (pc' := 32) (lv' := [(0, .ref 76), (2, .int v2), (3, .int v3), (4, .int v4), (5, .int v5), (6, .int v6)]) (st' := [.int (σ.1 39 9), .int v6]) (σ' := σ) (by decide +kernel) rfl rfl rfl ?_
  refine fhW.i_ge hΓ (tgt := 89) (show fhbk _ _ (.if_icmp .ge (57)) _ = true by decide +kernel) (fun hc => ?_) (fun hc => ?_)
  · rw [if_pos hc] at h
    refine fhW.blk fhPF fhLL hΓ [(.iinc 4 1, 1)] (pc' := 92) (lv' := [(4, .int (v4 + (1 : Int32))), (0, .ref 76), (2, .int v2), (3, .int v3), (5, .int v5), (6, .int v6)]) (st' := []) (σ' := σ) (by decide +kernel) rfl rfl rfl ?_
    refine fhW.goto hΓ (off := (-89)) (tgt := 3) (by decide +kernel) ?_
    refine fhW.sub (lv' := [(0, .ref 76), (2, .int v2), (3, .int v3), (4, .int (v4 + (1 : Int32)))]) [1, 2, 3, 0] rfl ?_
    have e9 := Option.some.inj h
    subst e9
    exact hk
  · rw [if_neg hc] at h
    refine fhW.blk fhPF fhLL hΓ [(.iload 5, 0), (.iconst 5, 5), (.imul, 0), (.iload 6, 0), (.iadd, 0), (.istore 7, 0), (.aload_n 0, 0), (.getfield 29, 0), (.iload 5, 0)] (pc' := 50) (lv' := [(7, .int ((v5 * (5 : Int32)) + v6)), (0, .ref 76), (2, .int v2), (3, .int v3), (4, .int v4), (5, .int v5), (6, .int v6)]) (st' := [.int v5, .ref 85]) (σ' := σ) (by decide +kernel) rfl rfl rfl ?_
    refine fhW.callv hΓ mvX2_get ml_1_70 (t := 85) (ci := 2) (av := [.int v5]) (rest := []) (r := (some (.int (fcG σ 85 v5)))) (σ' := σ) (T_X2_get (E := fhEn Γ) (d := fhD Γ - 1) hE (by omega) 85 v5 rfl σ) (by omega) (by decide +kernel) rfl rfl rfl (Nat.le_of_ble_eq_true rfl) rfl ?_
    show fhW fhYF Γ 53 [(7, .int ((v5 * (5 : Int32)) + v6)), (0, .ref 76), (2, .int v2), (3, .int v3), (4, .int v4), (5, .int v5), (6, .int v6)] [.int (fcG σ 85 v5)] σ
    refine fhW.blk fhPF fhLL hΓ [(.iload 6, 0), (.ishr, 0), (.iconst 1, 1), (.iand, 0)] (pc' := 58) (lv' := [(7, .int ((v5 * (5 : Int32)) + v6)), (0, .ref 76), (2, .int v2), (3, .int v3), (4, .int v4), (5, .int v5), (6, .int v6)]) (st' := [.int (((fcG σ 85 v5) >>> (v6 &&& 31)) &&& (1 : Int32))]) (σ' := σ) (by decide +kernel) rfl rfl rfl ?_
    refine fhW.z_eq hΓ (tgt := 83) (show fhbk _ _ (.ifCond .eq (25)) _ = true by decide +kernel) (fun hc => ?_) (fun hc => ?_)
    · rw [if_pos hc] at h
      refine fhW.sub (lv' := [(0, .ref 76), (2, .int v2), (3, .int v3), (4, .int v4), (5, .int v5), (6, .int v6)]) [1, 2, 3, 4, 5, 6] rfl ?_
      exact L_X1_noteKnowers_83 hE hΓ hd v2 v3 v4 v5 v6 σ _ h hk
    · rw [if_neg hc] at h
      refine fhW.blk fhPF fhLL hΓ [(.aload_n 0, 0), (.getfield 32, 0), (.iload 7, 0), (.aload_n 0, 0), (.getfield 32, 0), (.iload 7, 0)] (pc' := 73) (lv' := [(7, .int ((v5 * (5 : Int32)) + v6)), (0, .ref 76), (2, .int v2), (3, .int v3), (4, .int v4), (5, .int v5), (6, .int v6)]) (st' := [.int ((v5 * (5 : Int32)) + v6), .ref 87, .int ((v5 * (5 : Int32)) + v6), .ref 87]) (σ' := σ) (by decide +kernel) rfl rfl rfl ?_
      refine fhW.callv hΓ mvX2_get ml_1_70 (t := 87) (ci := 2) (av := [.int ((v5 * (5 : Int32)) + v6)]) (rest := [.int ((v5 * (5 : Int32)) + v6), .ref 87]) (r := (some (.int (fcG σ 87 ((v5 * (5 : Int32)) + v6))))) (σ' := σ) (T_X2_get (E := fhEn Γ) (d := fhD Γ - 1) hE (by omega) 87 ((v5 * (5 : Int32)) + v6) rfl σ) (by omega) (by decide +kernel) rfl rfl rfl (Nat.le_of_ble_eq_true rfl) rfl ?_
      show fhW fhYF Γ 76 [(7, .int ((v5 * (5 : Int32)) + v6)), (0, .ref 76), (2, .int v2), (3, .int v3), (4, .int v4), (5, .int v5), (6, .int v6)] [.int (fcG σ 87 ((v5 * (5 : Int32)) + v6)), .int ((v5 * (5 : Int32)) + v6), .ref 87] σ
      refine fhW.blk fhPF fhLL hΓ [(.iload_n 3, 0)] (pc' := 77) (lv' := [(7, .int ((v5 * (5 : Int32)) + v6)), (0, .ref 76), (2, .int v2), (3, .int v3), (4, .int v4), (5, .int v5), (6, .int v6)]) (st' := [.int v3, .int (fcG σ 87 ((v5 * (5 : Int32)) + v6)), .int ((v5 * (5 : Int32)) + v6), .ref 87]) (σ' := σ) (by decide +kernel) rfl rfl rfl ?_
      refine fhW.calls hΓ msJ9_min_7cf53 ml_1_95 (av := [.int (fcG σ 87 ((v5 * (5 : Int32)) + v6)), .int v3]) (rest := [.int ((v5 * (5 : Int32)) + v6), .ref 87]) (r := (some (.int (f_J9_min_7cf53 (fcG σ 87 ((v5 * (5 : Int32)) + v6)) v3 σ)))) (σ' := σ) (T_J9_min_7cf53 (E := fhEn Γ) (d := fhD Γ - 1) hE (by omega) (fcG σ 87 ((v5 * (5 : Int32)) + v6)) v3 σ) (by omega) (by decide +kernel) rfl (Nat.le_of_ble_eq_true rfl) rfl ?_
      show fhW fhYF Γ 80 [(7, .int ((v5 * (5 : Int32)) + v6)), (0, .ref 76), (2, .int v2), (3, .int v3), (4, .int v4), (5, .int v5), (6, .int v6)] [.int (f_J9_min_7cf53 (fcG σ 87 ((v5 * (5 : Int32)) + v6)) v3 σ), .int ((v5 * (5 : Int32)) + v6), .ref 87] σ
      refine fhW.callv hΓ mvX2_put ml_1_74 (t := 87) (ci := 2) (av := [.int ((v5 * (5 : Int32)) + v6), .int (f_J9_min_7cf53 (fcG σ 87 ((v5 * (5 : Int32)) + v6)) v3 σ)]) (rest := []) (r := none) (σ' := (fcP σ 87 ((v5 * (5 : Int32)) + v6) (f_J9_min_7cf53 (fcG σ 87 ((v5 * (5 : Int32)) + v6)) v3 σ))) (T_X2_put (E := fhEn Γ) (d := fhD Γ - 1) hE (by omega) 87 ((v5 * (5 : Int32)) + v6) (f_J9_min_7cf53 (fcG σ 87 ((v5 * (5 : Int32)) + v6)) v3 σ) rfl σ) (by omega) (by decide +kernel) rfl rfl rfl (Nat.le_of_ble_eq_true rfl) rfl ?_
      show fhW fhYF Γ 83 [(7, .int ((v5 * (5 : Int32)) + v6)), (0, .ref 76), (2, .int v2), (3, .int v3), (4, .int v4), (5, .int v5), (6, .int v6)] [] (fcP σ 87 ((v5 * (5 : Int32)) + v6) (f_J9_min_7cf53 (fcG σ 87 ((v5 * (5 : Int32)) + v6)) v3 σ))
      refine fhW.sub (lv' := [(0, .ref 76), (2, .int v2), (3, .int v3), (4, .int v4), (5, .int v5), (6, .int v6)]) [1, 2, 3, 4, 5, 6] rfl ?_
      exact L_X1_noteKnowers_83 hE hΓ hd v2 v3 v4 v5 v6 (fcP σ 87 ((v5 * (5 : Int32)) + v6) (f_J9_min_7cf53 (fcG σ 87 ((v5 * (5 : Int32)) + v6)) v3 σ)) _ h hk
set_option maxRecDepth 100000 in
set_option maxHeartbeats 4000000 in
theorem L_X1_noteKnowers_3 {Γ : fhX} (hE : fhEok fhYF (fhEn Γ)) (hΓ : fhOk fhYF 1 cX1_noteKnowers 8 none Γ) (hd : 1 ≤ fhD Γ) (v2 : Int32) (v3 : Int32) (v4 : Int32)  (σ : fhM) (o : (Int32 × fhM) ⊕ (fhM)) (h : f_X1_noteKnowers_3 v2 v3 v4 σ = some o) (hk : (fhK (fun x => fhW fhYF Γ 3 [(0, .ref 76), (2, .int v2), (3, .int v3), (4, .int x.1)] [] x.2) (fun o => fhRet Γ none o)) o) : fhW fhYF Γ 3 [(0, .ref 76), (2, .int v2), (3, .int v3), (4, .int v4)] [] σ := by
  unfold f_X1_noteKnowers_3 at h
  refine fhW.blk fhPF fhLL hΓ [(.iload 4, 0), (.iload_n 2, 0)] (pc' := 6) (lv' := [(0, .ref 76), (2, .int v2), (3, .int v3), (4, .int v4)]) (st' := [.int v2, .int v4]) (σ' := σ) (by decide +kernel) rfl rfl rfl ?_
  refine fhW.i_ge hΓ (tgt := 95) (show fhbk _ _ (.if_icmp .ge (89)) _ = true by decide +kernel) (fun hc => ?_) (fun hc => ?_)
  · rw [if_pos hc] at h
    have e9 := Option.some.inj h
    subst e9
    exact fhW.vret hΓ (by decide +kernel) hk
  · rw [if_neg hc] at h
    refine fhW.blk fhPF fhLL hΓ [(.aload_n 0, 0), (.getfield 14, 0), (.iload 4, 0)] (pc' := 15) (lv' := [(0, .ref 76), (2, .int v2), (3, .int v3), (4, .int v4)]) (st' := [.int v4, .ref (σ.2.2 76 1)]) (σ' := σ) (by decide +kernel) rfl rfl rfl ?_
    obtain ⟨hy1, h⟩ := fhif h
    refine fhW.callv hΓ mvX2_get ml_1_70 (t := (σ.2.2 76 1)) (ci := 2) (av := [.int v4]) (rest := []) (r := (some (.int (fcG σ (σ.2.2 76 1) v4)))) (σ' := σ) (T_X2_get (E := fhEn Γ) (d := fhD Γ - 1) hE (by omega) (σ.2.2 76 1) v4 hy1 σ) (by omega) (by decide +kernel) rfl (fhiC_g hy1) rfl (Nat.le_of_ble_eq_true rfl) rfl ?_
    show fhW fhYF Γ 18 [(0, .ref 76), (2, .int v2), (3, .int v3), (4, .int v4)] [.int (fcG σ (σ.2.2 76 1) v4)] σ
    refine fhW.blk fhPF fhLL hΓ [(.istore 5, 0), (.iconst 0, 0), (.istore 6, 0)] (pc' := 23) (lv' := [(6, .int (0 : Int32)), (5, .int (fcG σ (σ.2.2 76 1) v4)), (0, .ref 76), (2, .int v2), (3, .int v3), (4, .int v4)]) (st' := []) (σ' := σ) (by decide +kernel) rfl rfl rfl ?_
    refine fhW.sub (lv' := [(0, .ref 76), (2, .int v2), (3, .int v3), (4, .int v4), (5, .int (fcG σ (σ.2.2 76 1) v4)), (6, .int (0 : Int32))]) [2, 3, 4, 5, 1, 0] rfl ?_
    exact fhlp_ok (W := (fun x => fhW fhYF Γ 23 [(0, .ref 76), (2, .int v2), (3, .int v3), (4, .int v4), (5, .int (fcG σ (σ.2.2 76 1) v4)), (6, .int x.1)] [] x.2)) (B := (fhK (fun x => fhW fhYF Γ 3 [(0, .ref 76), (2, .int v2), (3, .int v3), (4, .int x.1)] [] x.2) (fun o => fhRet Γ none o))) (fun x o h hk => L_X1_noteKnowers_23 hE hΓ hd v2 v3 v4 (fcG σ (σ.2.2 76 1) v4) x.1 x.2 o h hk) ((0 : Int32), σ) _ h hk
set_option maxRecDepth 100000 in
set_option maxHeartbeats 4000000 in
theorem L_X1_noteKnowers_E {Γ : fhX} (hE : fhEok fhYF (fhEn Γ)) (hΓ : fhOk fhYF 1 cX1_noteKnowers 8 none Γ) (hd : 1 ≤ fhD Γ) (v1 : Int32) (v2 : Int32) (v3 : Int32)  (σ : fhM) (o : fhM) (h : f_X1_noteKnowers v1 v2 v3 σ = some o) (hk : (fun o => fhRet Γ none o) o) : fhW fhYF Γ 0 [(0, .ref 76), (1, .int v1), (2, .int v2), (3, .int v3)] [] σ := by
  unfold f_X1_noteKnowers at h
  refine fhW.blk fhPF fhLL hΓ [(.iload_n 1, 0), (.istore 4, 0)] (pc' := 3) (lv' := [(4, .int v1), (0, .ref 76), (1, .int v1), (2, .int v2), (3, .int v3)]) (st' := []) (σ' := σ) (by decide +kernel) rfl rfl rfl ?_
  refine fhW.sub (lv' := [(0, .ref 76), (2, .int v2), (3, .int v3), (4, .int v1)]) [1, 3, 4, 0] rfl ?_
  exact fhlp_ok (W := (fun x => fhW fhYF Γ 3 [(0, .ref 76), (2, .int v2), (3, .int v3), (4, .int x.1)] [] x.2)) (B := (fun o => fhRet Γ none o)) (fun x o h hk => L_X1_noteKnowers_3 hE hΓ hd v2 v3 x.1 x.2 o h hk) (v1, σ) _ h hk
set_option maxRecDepth 100000 in
theorem T_X1_noteKnowers {E : fhE} {d : Nat} (hE : fhEok fhYF E) (hd : 1 ≤ d) (v1 : Int32) (v2 : Int32) (v3 : Int32)  (σ : fhM) {o : fhM} (h : f_X1_noteKnowers v1 v2 v3 σ = some o) : fhC fhYF E d miX1_noteKnowers [.ref 76, .int v1, .int v2, .int v3] σ none o := by
  refine fhC.of (y := yX1_noteKnowers) (cc := cX1_noteKnowers) (nL := 8) (ret := none) 1 rfl (by decide +kernel) (Nat.le_of_ble_eq_true rfl) ?_
  intro Γ hΓ hR hD hEn
  subst hD; subst hEn
  exact L_X1_noteKnowers_E hE hΓ hd v1 v2 v3  σ _ h hR
set_option maxRecDepth 100000 in
set_option maxHeartbeats 4000000 in
theorem L_X1_splitGroup_109 {Γ : fhX} (hE : fhEok fhYF (fhEn Γ)) (hΓ : fhOk fhYF 1 cX1_splitGroup 8 none Γ) (hd : 1 ≤ fhD Γ) (v1 : Int32) (v2 : Int32) (v3 : Int32) (v4 : Int32)  (σ : fhM) (o : (Int32 × Int32 × fhM) ⊕ (fhM)) (h : f_X1_splitGroup_109 v1 v2 v3 v4 σ = some o) (hk : (fhK (fun x => fhW fhYF Γ 5 [(0, .ref 76), (1, .int v1), (2, .int v2), (3, .int x.1), (4, .int x.2.1)] [] x.2.2) (fun o => fhRet Γ none o)) o) : fhW fhYF Γ 109 [(0, .ref 76), (1, .int v1), (2, .int v2), (3, .int v3), (4, .int v4)] [] σ := by
  unfold f_X1_splitGroup_109 at h
  refine fhW.blk fhPF fhLL hΓ [(.iinc 4 1, 1)] (pc' := 112) (lv' := [(4, .int (v4 + (1 : Int32))), (0, .ref 76), (1, .int v1), (2, .int v2), (3, .int v3)]) (st' := []) (σ' := σ) (by decide +kernel) rfl rfl rfl ?_
  refine fhW.goto hΓ (off := (-107)) (tgt := 5) (by decide +kernel) ?_
  refine fhW.sub (lv' := [(0, .ref 76), (1, .int v1), (2, .int v2), (3, .int v3), (4, .int (v4 + (1 : Int32)))]) [1, 2, 3, 4, 0] rfl ?_
  have e9 := Option.some.inj h
  subst e9
  exact hk
set_option maxRecDepth 100000 in
set_option maxHeartbeats 4000000 in
theorem L_X1_splitGroup_74 {Γ : fhX} (hE : fhEok fhYF (fhEn Γ)) (hΓ : fhOk fhYF 1 cX1_splitGroup 8 none Γ) (hd : 1 ≤ fhD Γ) (v1 : Int32) (v2 : Int32) (v3 : Int32) (v4 : Int32) (v5 : Int32) (v6 : Int32)  (σ : fhM) (o : (Int32 × Int32 × fhM) ⊕ ((Int32 × Int32 × fhM) ⊕ (fhM))) (h : f_X1_splitGroup_74 v1 v2 v3 v4 v5 v6 σ = some o) (hk : (fhK (fun x => fhW fhYF Γ 30 [(0, .ref 76), (1, .int v1), (2, .int v2), (3, .int x.1), (4, .int v4), (5, .int v5), (6, .int x.2.1)] [] x.2.2) (fhK (fun x => fhW fhYF Γ 5 [(0, .ref 76), (1, .int v1), (2, .int v2), (3, .int x.1), (4, .int x.2.1)] [] x.2.2) (fun o => fhRet Γ none o))) o) : fhW fhYF Γ 74 [(0, .ref 76), (1, .int v1), (2, .int v2), (3, .int v3), (4, .int v4), (5, .int v5), (6, .int v6)] [] σ := by
  unfold f_X1_splitGroup_74 at h
  refine fhW.blk fhPF fhLL hΓ [(.iinc 6 1, 1)] (pc' := 77) (lv' := [(6, .int (v6 + (1 : Int32))), (0, .ref 76), (1, .int v1), (2, .int v2), (3, .int v3), (4, .int v4), (5, .int v5)]) (st' := []) (σ' := σ) (by decide +kernel) rfl rfl rfl ?_
  refine fhW.goto hΓ (off := (-47)) (tgt := 30) (by decide +kernel) ?_
  refine fhW.sub (lv' := [(0, .ref 76), (1, .int v1), (2, .int v2), (3, .int v3), (4, .int v4), (5, .int v5), (6, .int (v6 + (1 : Int32)))]) [1, 2, 3, 4, 5, 6, 0] rfl ?_
  have e9 := Option.some.inj h
  subst e9
  exact hk
set_option maxRecDepth 100000 in
set_option maxHeartbeats 4000000 in
theorem L_X1_splitGroup_30 {Γ : fhX} (hE : fhEok fhYF (fhEn Γ)) (hΓ : fhOk fhYF 1 cX1_splitGroup 8 none Γ) (hd : 1 ≤ fhD Γ) (v1 : Int32) (v2 : Int32) (v3 : Int32) (v4 : Int32) (v5 : Int32) (v6 : Int32)  (σ : fhM) (o : (Int32 × Int32 × fhM) ⊕ ((Int32 × Int32 × fhM) ⊕ (fhM))) (h : f_X1_splitGroup_30 v1 v2 v3 v4 v5 v6 σ = some o) (hk : (fhK (fun x => fhW fhYF Γ 30 [(0, .ref 76), (1, .int v1), (2, .int v2), (3, .int x.1), (4, .int v4), (5, .int v5), (6, .int x.2.1)] [] x.2.2) (fhK (fun x => fhW fhYF Γ 5 [(0, .ref 76), (1, .int v1), (2, .int v2), (3, .int x.1), (4, .int x.2.1)] [] x.2.2) (fun o => fhRet Γ none o))) o) : fhW fhYF Γ 30 [(0, .ref 76), (1, .int v1), (2, .int v2), (3, .int v3), (4, .int v4), (5, .int v5), (6, .int v6)] [] σ := by
  unfold f_X1_splitGroup_30 at h
  refine fhW.blk fhPF fhLL hΓ [(.iload 6, 0), (.iload_n 2, 0)] (pc' := 33) (lv' := [(0, .ref 76), (1, .int v1), (2, .int v2), (3, .int v3), (4, .int v4), (5, .int v5), (6, .int v6)]) (st' := [.int v2, .int v6]) (σ' := σ) (by decide +kernel) rfl rfl rfl ?_
  refine fhW.i_ge hΓ (tgt := 80) (show fhbk _ _ (.if_icmp .ge (47)) _ = true by decide +kernel) (fun hc => ?_) (fun hc => ?_)
  · rw [if_pos hc] at h
    refine fhW.blk fhPF fhLL hΓ [(.iload_n 3, 0), (.iload 5, 0)] (pc' := 83) (lv' := [(0, .ref 76), (1, .int v1), (2, .int v2), (3, .int v3), (4, .int v4), (5, .int v5), (6, .int v6)]) (st' := [.int v5, .int v3]) (σ' := σ) (by decide +kernel) rfl rfl rfl ?_
    refine fhW.i_le hΓ (tgt := 109) (show fhbk _ _ (.if_icmp .le (26)) _ = true by decide +kernel) (fun hc => ?_) (fun hc => ?_)
    · rw [if_pos hc] at h
      refine fhW.sub (lv' := [(0, .ref 76), (1, .int v1), (2, .int v2), (3, .int v3), (4, .int v4)]) [0, 1, 2, 3, 4] rfl ?_
      obtain ⟨z1, hz, e1⟩ := Option.map_eq_some_iff.mp h
      clear h
      subst e1
      have h := hz
      have hk : (fhK (fun x => fhW fhYF Γ 5 [(0, .ref 76), (1, .int v1), (2, .int v2), (3, .int x.1), (4, .int x.2.1)] [] x.2.2) (fun o => fhRet Γ none o)) z1 := hk
      exact L_X1_splitGroup_109 hE hΓ hd v1 v2 v3 v4 σ _ h hk
    · rw [if_neg hc] at h
      refine fhW.blk fhPF fhLL hΓ [(.aload_n 0, 0), (.getfield 26, 0), (.aload_n 0, 0), (.getfield 78, 0), (.iload 5, 0)] (pc' := 96) (lv' := [(0, .ref 76), (1, .int v1), (2, .int v2), (3, .int v3), (4, .int v4), (5, .int v5), (6, .int v6)]) (st' := [.int v5, .int (σ.1 76 6), .ref (σ.2.2 76 4)]) (σ' := σ) (by decide +kernel) rfl rfl rfl ?_
      obtain ⟨hy1, h⟩ := fhif h
      refine fhW.callv hΓ mvX2_put ml_1_74 (t := (σ.2.2 76 4)) (ci := 2) (av := [.int (σ.1 76 6), .int v5]) (rest := []) (r := none) (σ' := (fcP σ (σ.2.2 76 4) (σ.1 76 6) v5)) (T_X2_put (E := fhEn Γ) (d := fhD Γ - 1) hE (by omega) (σ.2.2 76 4) (σ.1 76 6) v5 hy1 σ) (by omega) (by decide +kernel) rfl (fhiC_g hy1) rfl (Nat.le_of_ble_eq_true rfl) rfl ?_
      show fhW fhYF Γ 99 [(0, .ref 76), (1, .int v1), (2, .int v2), (3, .int v3), (4, .int v4), (5, .int v5), (6, .int v6)] [] (fcP σ (σ.2.2 76 4) (σ.1 76 6) v5)
      refine fhW.blk fhPF fhLL hΓ [(.aload_n 0, 0), (.dup, 0), (.getfield 78, 0), (.iconst 1, 1), (.iadd, 0), (.putfield 78, 0)] (pc' := 109) (lv' := [(0, .ref 76), (1, .int v1), (2, .int v2), (3, .int v3), (4, .int v4), (5, .int v5), (6, .int v6)]) (st' := []) (σ' := (fhI (fcP σ (σ.2.2 76 4) (σ.1 76 6) v5) 76 6 (((fcP σ (σ.2.2 76 4) (σ.1 76 6) v5).1 76 6) + (1 : Int32)))) (by decide +kernel) rfl rfl rfl ?_
      refine fhW.sub (lv' := [(0, .ref 76), (1, .int v1), (2, .int v2), (3, .int v3), (4, .int v4)]) [0, 1, 2, 3, 4] rfl ?_
      obtain ⟨z2, hz, e2⟩ := Option.map_eq_some_iff.mp h
      clear h
      subst e2
      have h := hz
      have hk : (fhK (fun x => fhW fhYF Γ 5 [(0, .ref 76), (1, .int v1), (2, .int v2), (3, .int x.1), (4, .int x.2.1)] [] x.2.2) (fun o => fhRet Γ none o)) z2 := hk
      exact L_X1_splitGroup_109 hE hΓ hd v1 v2 v3 v4 (fhI (fcP σ (σ.2.2 76 4) (σ.1 76 6) v5) 76 6 (((fcP σ (σ.2.2 76 4) (σ.1 76 6) v5).1 76 6) + (1 : Int32))) _ h hk
  · rw [if_neg hc] at h
    refine fhW.blk fhPF fhLL hΓ [(.aload_n 0, 0), (.getfield 14, 0), (.iload 6, 0)] (pc' := 42) (lv' := [(0, .ref 76), (1, .int v1), (2, .int v2), (3, .int v3), (4, .int v4), (5, .int v5), (6, .int v6)]) (st' := [.int v6, .ref (σ.2.2 76 1)]) (σ' := σ) (by decide +kernel) rfl rfl rfl ?_
    obtain ⟨hy2, h⟩ := fhif h
    refine fhW.callv hΓ mvX2_get ml_1_70 (t := (σ.2.2 76 1)) (ci := 2) (av := [.int v6]) (rest := []) (r := (some (.int (fcG σ (σ.2.2 76 1) v6)))) (σ' := σ) (T_X2_get (E := fhEn Γ) (d := fhD Γ - 1) hE (by omega) (σ.2.2 76 1) v6 hy2 σ) (by omega) (by decide +kernel) rfl (fhiC_g hy2) rfl (Nat.le_of_ble_eq_true rfl) rfl ?_
    show fhW fhYF Γ 45 [(0, .ref 76), (1, .int v1), (2, .int v2), (3, .int v3), (4, .int v4), (5, .int v5), (6, .int v6)] [.int (fcG σ (σ.2.2 76 1) v6)] σ
    refine fhW.blk fhPF fhLL hΓ [(.istore 7, 0), (.aload_n 0, 0), (.getfield 29, 0), (.iload 7, 0)] (pc' := 53) (lv' := [(7, .int (fcG σ (σ.2.2 76 1) v6)), (0, .ref 76), (1, .int v1), (2, .int v2), (3, .int v3), (4, .int v4), (5, .int v5), (6, .int v6)]) (st' := [.int (fcG σ (σ.2.2 76 1) v6), .ref 85]) (σ' := σ) (by decide +kernel) rfl rfl rfl ?_
    refine fhW.callv hΓ mvX2_get ml_1_70 (t := 85) (ci := 2) (av := [.int (fcG σ (σ.2.2 76 1) v6)]) (rest := []) (r := (some (.int (fcG σ 85 (fcG σ (σ.2.2 76 1) v6))))) (σ' := σ) (T_X2_get (E := fhEn Γ) (d := fhD Γ - 1) hE (by omega) 85 (fcG σ (σ.2.2 76 1) v6) rfl σ) (by omega) (by decide +kernel) rfl rfl rfl (Nat.le_of_ble_eq_true rfl) rfl ?_
    show fhW fhYF Γ 56 [(7, .int (fcG σ (σ.2.2 76 1) v6)), (0, .ref 76), (1, .int v1), (2, .int v2), (3, .int v3), (4, .int v4), (5, .int v5), (6, .int v6)] [.int (fcG σ 85 (fcG σ (σ.2.2 76 1) v6))] σ
    refine fhW.blk fhPF fhLL hΓ [(.iload 4, 0)] (pc' := 58) (lv' := [(7, .int (fcG σ (σ.2.2 76 1) v6)), (0, .ref 76), (1, .int v1), (2, .int v2), (3, .int v3), (4, .int v4), (5, .int v5), (6, .int v6)]) (st' := [.int v4, .int (fcG σ 85 (fcG σ (σ.2.2 76 1) v6))]) (σ' := σ) (by decide +kernel) rfl rfl rfl ?_
    refine fhW.i_ne hΓ (tgt := 74) (show fhbk _ _ (.if_icmp .ne (16)) _ = true by decide +kernel) (fun hc => ?_) (fun hc => ?_)
    · rw [if_neg hc] at h
      refine fhW.sub (lv' := [(0, .ref 76), (1, .int v1), (2, .int v2), (3, .int v3), (4, .int v4), (5, .int v5), (6, .int v6)]) [1, 2, 3, 4, 5, 6, 7] rfl ?_
      exact L_X1_splitGroup_74 hE hΓ hd v1 v2 v3 v4 v5 v6 σ _ h hk
    · rw [if_pos hc] at h
      refine fhW.blk fhPF fhLL hΓ [(.aload_n 0, 0), (.getfield 20, 0), (.iload_n 3, 0), (.iload 7, 0)] (pc' := 68) (lv' := [(7, .int (fcG σ (σ.2.2 76 1) v6)), (0, .ref 76), (1, .int v1), (2, .int v2), (3, .int v3), (4, .int v4), (5, .int v5), (6, .int v6)]) (st' := [.int (fcG σ (σ.2.2 76 1) v6), .int v3, .ref (σ.2.2 76 2)]) (σ' := σ) (by decide +kernel) rfl rfl rfl ?_
      obtain ⟨hy3, h⟩ := fhif h
      refine fhW.callv hΓ mvX2_put ml_1_74 (t := (σ.2.2 76 2)) (ci := 2) (av := [.int v3, .int (fcG σ (σ.2.2 76 1) v6)]) (rest := []) (r := none) (σ' := (fcP σ (σ.2.2 76 2) v3 (fcG σ (σ.2.2 76 1) v6))) (T_X2_put (E := fhEn Γ) (d := fhD Γ - 1) hE (by omega) (σ.2.2 76 2) v3 (fcG σ (σ.2.2 76 1) v6) hy3 σ) (by omega) (by decide +kernel) rfl (fhiC_g hy3) rfl (Nat.le_of_ble_eq_true rfl) rfl ?_
      show fhW fhYF Γ 71 [(7, .int (fcG σ (σ.2.2 76 1) v6)), (0, .ref 76), (1, .int v1), (2, .int v2), (3, .int v3), (4, .int v4), (5, .int v5), (6, .int v6)] [] (fcP σ (σ.2.2 76 2) v3 (fcG σ (σ.2.2 76 1) v6))
      refine fhW.blk fhPF fhLL hΓ [(.iinc 3 1, 1)] (pc' := 74) (lv' := [(3, .int (v3 + (1 : Int32))), (7, .int (fcG σ (σ.2.2 76 1) v6)), (0, .ref 76), (1, .int v1), (2, .int v2), (4, .int v4), (5, .int v5), (6, .int v6)]) (st' := []) (σ' := (fcP σ (σ.2.2 76 2) v3 (fcG σ (σ.2.2 76 1) v6))) (by decide +kernel) rfl rfl rfl ?_
      refine fhW.sub (lv' := [(0, .ref 76), (1, .int v1), (2, .int v2), (3, .int (v3 + (1 : Int32))), (4, .int v4), (5, .int v5), (6, .int v6)]) [2, 3, 4, 0, 5, 6, 7] rfl ?_
      exact L_X1_splitGroup_74 hE hΓ hd v1 v2 (v3 + (1 : Int32)) v4 v5 v6 (fcP σ (σ.2.2 76 2) v3 (fcG σ (σ.2.2 76 1) v6)) _ h hk
set_option maxRecDepth 100000 in
set_option maxHeartbeats 4000000 in
theorem L_X1_splitGroup_5 {Γ : fhX} (hE : fhEok fhYF (fhEn Γ)) (hΓ : fhOk fhYF 1 cX1_splitGroup 8 none Γ) (hd : 1 ≤ fhD Γ) (v1 : Int32) (v2 : Int32) (v3 : Int32) (v4 : Int32)  (σ : fhM) (o : (Int32 × Int32 × fhM) ⊕ (fhM)) (h : f_X1_splitGroup_5 v1 v2 v3 v4 σ = some o) (hk : (fhK (fun x => fhW fhYF Γ 5 [(0, .ref 76), (1, .int v1), (2, .int v2), (3, .int x.1), (4, .int x.2.1)] [] x.2.2) (fun o => fhRet Γ none o)) o) : fhW fhYF Γ 5 [(0, .ref 76), (1, .int v1), (2, .int v2), (3, .int v3), (4, .int v4)] [] σ := by
  unfold f_X1_splitGroup_5 at h
  refine fhW.blk fhPF fhLL hΓ [(.iload 4, 0), (.iconst 1, 1), (.aload_n 0, 0), (.getfield 41, 0), (.getfield 92, 0), (.ishl, 0)] (pc' := 16) (lv' := [(0, .ref 76), (1, .int v1), (2, .int v2), (3, .int v3), (4, .int v4)]) (st' := [.int ((1 : Int32) <<< ((σ.1 39 9) &&& 31)), .int v4]) (σ' := σ) (by decide +kernel) rfl rfl rfl ?_
  refine fhW.i_ge hΓ (tgt := 115) (show fhbk _ _ (.if_icmp .ge (99)) _ = true by decide +kernel) (fun hc => ?_) (fun hc => ?_)
  · rw [if_pos hc] at h
    have e9 := Option.some.inj h
    subst e9
    exact fhW.vret hΓ (by decide +kernel) hk
  · rw [if_neg hc] at h
    refine fhW.blk fhPF fhLL hΓ [(.iload_n 3, 0), (.iload_n 2, 0)] (pc' := 21) (lv' := [(0, .ref 76), (1, .int v1), (2, .int v2), (3, .int v3), (4, .int v4)]) (st' := [.int v2, .int v3]) (σ' := σ) (by decide +kernel) rfl rfl rfl ?_
    refine fhW.i_ge hΓ (tgt := 115) (show fhbk _ _ (.if_icmp .ge (94)) _ = true by decide +kernel) (fun hc => ?_) (fun hc => ?_)
    · rw [if_pos hc] at h
      have e9 := Option.some.inj h
      subst e9
      exact fhW.vret hΓ (by decide +kernel) hk
    · rw [if_neg hc] at h
      refine fhW.blk fhPF fhLL hΓ [(.iload_n 3, 0), (.istore 5, 0), (.iload_n 1, 0), (.istore 6, 0)] (pc' := 30) (lv' := [(6, .int v1), (5, .int v3), (0, .ref 76), (1, .int v1), (2, .int v2), (3, .int v3), (4, .int v4)]) (st' := []) (σ' := σ) (by decide +kernel) rfl rfl rfl ?_
      refine fhW.sub (lv' := [(0, .ref 76), (1, .int v1), (2, .int v2), (3, .int v3), (4, .int v4), (5, .int v3), (6, .int v1)]) [2, 3, 4, 5, 6, 1, 0] rfl ?_
      exact fhlp_ok (W := (fun x => fhW fhYF Γ 30 [(0, .ref 76), (1, .int v1), (2, .int v2), (3, .int x.1), (4, .int v4), (5, .int v3), (6, .int x.2.1)] [] x.2.2)) (B := (fhK (fun x => fhW fhYF Γ 5 [(0, .ref 76), (1, .int v1), (2, .int v2), (3, .int x.1), (4, .int x.2.1)] [] x.2.2) (fun o => fhRet Γ none o))) (fun x o h hk => L_X1_splitGroup_30 hE hΓ hd v1 v2 x.1 v4 v3 x.2.1 x.2.2 o h hk) (v3, v1, σ) _ h hk
set_option maxRecDepth 100000 in
set_option maxHeartbeats 4000000 in
theorem L_X1_splitGroup_E {Γ : fhX} (hE : fhEok fhYF (fhEn Γ)) (hΓ : fhOk fhYF 1 cX1_splitGroup 8 none Γ) (hd : 1 ≤ fhD Γ) (v1 : Int32) (v2 : Int32)  (σ : fhM) (o : fhM) (h : f_X1_splitGroup v1 v2 σ = some o) (hk : (fun o => fhRet Γ none o) o) : fhW fhYF Γ 0 [(0, .ref 76), (1, .int v1), (2, .int v2)] [] σ := by
  unfold f_X1_splitGroup at h
  refine fhW.blk fhPF fhLL hΓ [(.iload_n 1, 0), (.istore_n 3, 0), (.iconst 0, 0), (.istore 4, 0)] (pc' := 5) (lv' := [(4, .int (0 : Int32)), (3, .int v1), (0, .ref 76), (1, .int v1), (2, .int v2)]) (st' := []) (σ' := σ) (by decide +kernel) rfl rfl rfl ?_
  refine fhW.sub (lv' := [(0, .ref 76), (1, .int v1), (2, .int v2), (3, .int v1), (4, .int (0 : Int32))]) [2, 3, 4, 1, 0] rfl ?_
  exact fhlp_ok (W := (fun x => fhW fhYF Γ 5 [(0, .ref 76), (1, .int v1), (2, .int v2), (3, .int x.1), (4, .int x.2.1)] [] x.2.2)) (B := (fun o => fhRet Γ none o)) (fun x o h hk => L_X1_splitGroup_5 hE hΓ hd v1 v2 x.1 x.2.1 x.2.2 o h hk) (v1, (0 : Int32), σ) _ h hk
set_option maxRecDepth 100000 in
theorem T_X1_splitGroup {E : fhE} {d : Nat} (hE : fhEok fhYF E) (hd : 1 ≤ d) (v1 : Int32) (v2 : Int32)  (σ : fhM) {o : fhM} (h : f_X1_splitGroup v1 v2 σ = some o) : fhC fhYF E d miX1_splitGroup [.ref 76, .int v1, .int v2] σ none o := by
  refine fhC.of (y := yX1_splitGroup) (cc := cX1_splitGroup) (nL := 8) (ret := none) 1 rfl (by decide +kernel) (Nat.le_of_ble_eq_true rfl) ?_
  intro Γ hΓ hR hD hEn
  subst hD; subst hEn
  exact L_X1_splitGroup_E hE hΓ hd v1 v2  σ _ h hR
set_option maxRecDepth 100000 in
set_option maxHeartbeats 4000000 in
theorem L_X1_splitGroups_7 {Γ : fhX} (hE : fhEok fhYF (fhEn Γ)) (hΓ : fhOk fhYF 1 cX1_splitGroups 5 none Γ) (hd : 3 ≤ fhD Γ) (v1 : Int32) (v2 : Int32)  (σ : fhM) (o : (Int32 × fhM) ⊕ (fhM)) (h : f_X1_splitGroups_7 v1 v2 σ = some o) (hk : (fhK (fun x => fhW fhYF Γ 7 [(0, .ref 76), (1, .int v1), (2, .int x.1)] [] x.2) (fun o => fhRet Γ none o)) o) : fhW fhYF Γ 7 [(0, .ref 76), (1, .int v1), (2, .int v2)] [] σ := by
  unfold f_X1_splitGroups_7 at h
  refine fhW.blk fhPF fhLL hΓ [(.iload_n 2, 0), (.aload_n 0, 0), (.getfield 56, 0)] (pc' := 12) (lv' := [(0, .ref 76), (1, .int v1), (2, .int v2)]) (st' := [.int (σ.1 76 5), .int v2]) (σ' := σ) (by decide +kernel) rfl rfl rfl ?_
  refine fhW.i_ge hΓ (tgt := 75) (show fhbk _ _ (.if_icmp .ge (63)) _ = true by decide +kernel) (fun hc => ?_) (fun hc => ?_)
  · rw [if_pos hc] at h
    refine fhW.blk fhPF fhLL hΓ [(.aload_n 0, 0), (.getfield 26, 0), (.aload_n 0, 0), (.getfield 78, 0), (.aload_n 0, 0), (.getfield 41, 0), (.getfield 62, 0)] (pc' := 90) (lv' := [(0, .ref 76), (1, .int v1), (2, .int v2)]) (st' := [.int (σ.1 39 12), .int (σ.1 76 6), .ref (σ.2.2 76 4)]) (σ' := σ) (by decide +kernel) rfl rfl rfl ?_
    obtain ⟨hy1, h⟩ := fhif h
    refine fhW.callv hΓ mvX2_put ml_1_74 (t := (σ.2.2 76 4)) (ci := 2) (av := [.int (σ.1 76 6), .int (σ.1 39 12)]) (rest := []) (r := none) (σ' := (fcP σ (σ.2.2 76 4) (σ.1 76 6) (σ.1 39 12))) (T_X2_put (E := fhEn Γ) (d := fhD Γ - 1) hE (by omega) (σ.2.2 76 4) (σ.1 76 6) (σ.1 39 12) hy1 σ) (by omega) (by decide +kernel) rfl (fhiC_g hy1) rfl (Nat.le_of_ble_eq_true rfl) rfl ?_
    show fhW fhYF Γ 93 [(0, .ref 76), (1, .int v1), (2, .int v2)] [] (fcP σ (σ.2.2 76 4) (σ.1 76 6) (σ.1 39 12))
    refine fhW.blk fhPF fhLL hΓ [(.aload_n 0, 0), (.getfield 14, 0), (.astore_n 2, 0), (.aload_n 0, 0), (.aload_n 0, 0), (.getfield 20, 0), (.putfield 14, 0), (.aload_n 0, 0), (.aload_n 2, 0), (.putfield 20, 0), (.aload_n 0, 0), (.getfield 23, 0), (.astore_n 2, 0), (.aload_n 0, 0), (.aload_n 0, 0), (.getfield 26, 0), (.putfield 23, 0), (.aload_n 0, 0), (.aload_n 2, 0), (.putfield 26, 0), (.aload_n 0, 0), (.aload_n 0, 0), (.getfield 78, 0), (.putfield 56, 0)] (pc' := 137) (lv' := [(2, .ref (σ.2.2 76 3)), (0, .ref 76), (1, .int v1)]) (st' := []) (σ' := (fhI (fhR (fhR (fhR (fhR (fcP σ (σ.2.2 76 4) (σ.1 76 6) (σ.1 39 12)) 76 1 (σ.2.2 76 2)) 76 2 (σ.2.2 76 1)) 76 3 (σ.2.2 76 4)) 76 4 (σ.2.2 76 3)) 76 5 ((fcP σ (σ.2.2 76 4) (σ.1 76 6) (σ.1 39 12)).1 76 6))) (by decide +kernel) rfl rfl rfl ?_
    have e9 := Option.some.inj h
    subst e9
    exact fhW.vret hΓ (by decide +kernel) hk
  · rw [if_neg hc] at h
    refine fhW.blk fhPF fhLL hΓ [(.aload_n 0, 0), (.getfield 23, 0), (.iload_n 2, 0)] (pc' := 20) (lv' := [(0, .ref 76), (1, .int v1), (2, .int v2)]) (st' := [.int v2, .ref (σ.2.2 76 3)]) (σ' := σ) (by decide +kernel) rfl rfl rfl ?_
    obtain ⟨hy2, h⟩ := fhif h
    refine fhW.callv hΓ mvX2_get ml_1_70 (t := (σ.2.2 76 3)) (ci := 2) (av := [.int v2]) (rest := []) (r := (some (.int (fcG σ (σ.2.2 76 3) v2)))) (σ' := σ) (T_X2_get (E := fhEn Γ) (d := fhD Γ - 1) hE (by omega) (σ.2.2 76 3) v2 hy2 σ) (by omega) (by decide +kernel) rfl (fhiC_g hy2) rfl (Nat.le_of_ble_eq_true rfl) rfl ?_
    show fhW fhYF Γ 23 [(0, .ref 76), (1, .int v1), (2, .int v2)] [.int (fcG σ (σ.2.2 76 3) v2)] σ
    refine fhW.blk fhPF fhLL hΓ [(.istore_n 3, 0), (.aload_n 0, 0), (.getfield 23, 0), (.iload_n 2, 0), (.iconst 1, 1), (.iadd, 0)] (pc' := 31) (lv' := [(3, .int (fcG σ (σ.2.2 76 3) v2)), (0, .ref 76), (1, .int v1), (2, .int v2)]) (st' := [.int (v2 + (1 : Int32)), .ref (σ.2.2 76 3)]) (σ' := σ) (by decide +kernel) rfl rfl rfl ?_
    refine fhW.callv hΓ mvX2_get ml_1_70 (t := (σ.2.2 76 3)) (ci := 2) (av := [.int (v2 + (1 : Int32))]) (rest := []) (r := (some (.int (fcG σ (σ.2.2 76 3) (v2 + (1 : Int32)))))) (σ' := σ) (T_X2_get (E := fhEn Γ) (d := fhD Γ - 1) hE (by omega) (σ.2.2 76 3) (v2 + (1 : Int32)) hy2 σ) (by omega) (by decide +kernel) rfl (fhiC_g hy2) rfl (Nat.le_of_ble_eq_true rfl) rfl ?_
    show fhW fhYF Γ 34 [(3, .int (fcG σ (σ.2.2 76 3) v2)), (0, .ref 76), (1, .int v1), (2, .int v2)] [.int (fcG σ (σ.2.2 76 3) (v2 + (1 : Int32)))] σ
    refine fhW.blk fhPF fhLL hΓ [(.istore 4, 0), (.aload_n 0, 0), (.getfield 41, 0), (.aload_n 0, 0), (.getfield 14, 0), (.iload_n 3, 0), (.iload 4, 0), (.aload_n 0, 0), (.getfield 29, 0)] (pc' := 51) (lv' := [(4, .int (fcG σ (σ.2.2 76 3) (v2 + (1 : Int32)))), (3, .int (fcG σ (σ.2.2 76 3) v2)), (0, .ref 76), (1, .int v1), (2, .int v2)]) (st' := [.ref 85, .int (fcG σ (σ.2.2 76 3) (v2 + (1 : Int32))), .int (fcG σ (σ.2.2 76 3) v2), .ref (σ.2.2 76 1), .ref 39]) (σ' := σ) (by decide +kernel) rfl rfl rfl ?_
    obtain ⟨hy3, h⟩ := fhif h
    obtain ⟨q1, hb1, h⟩ := Option.bind_eq_some_iff.mp h
    refine fhW.callv hΓ mvX9_findKnowers ml_1_81 (t := 39) (ci := 9) (av := [.ref (σ.2.2 76 1), .int (fcG σ (σ.2.2 76 3) v2), .int (fcG σ (σ.2.2 76 3) (v2 + (1 : Int32))), .ref 85]) (rest := []) (r := none) (σ' := q1) (T_X9_findKnowers (E := fhEn Γ) (d := fhD Γ - 1) hE (by omega) (σ.2.2 76 1) (fcG σ (σ.2.2 76 3) v2) (fcG σ (σ.2.2 76 3) (v2 + (1 : Int32))) 85 hy3 rfl σ hb1) (by omega) (by decide +kernel) rfl rfl rfl (Nat.le_of_ble_eq_true rfl) rfl ?_
    show fhW fhYF Γ 54 [(4, .int (fcG σ (σ.2.2 76 3) (v2 + (1 : Int32)))), (3, .int (fcG σ (σ.2.2 76 3) v2)), (0, .ref 76), (1, .int v1), (2, .int v2)] [] q1
    refine fhW.blk fhPF fhLL hΓ [(.aload_n 0, 0), (.iload_n 3, 0), (.iload 4, 0), (.iload_n 1, 0)] (pc' := 59) (lv' := [(4, .int (fcG σ (σ.2.2 76 3) (v2 + (1 : Int32)))), (3, .int (fcG σ (σ.2.2 76 3) v2)), (0, .ref 76), (1, .int v1), (2, .int v2)]) (st' := [.int v1, .int (fcG σ (σ.2.2 76 3) (v2 + (1 : Int32))), .int (fcG σ (σ.2.2 76 3) v2), .ref 76]) (σ' := q1) (by decide +kernel) rfl rfl rfl ?_
    obtain ⟨q2, hb2, h⟩ := Option.bind_eq_some_iff.mp h
    refine fhW.callv hΓ mvX1_noteKnowers ml_1_85 (t := 76) (ci := 1) (av := [.int (fcG σ (σ.2.2 76 3) v2), .int (fcG σ (σ.2.2 76 3) (v2 + (1 : Int32))), .int v1]) (rest := []) (r := none) (σ' := q2) (T_X1_noteKnowers (E := fhEn Γ) (d := fhD Γ - 1) hE (by omega) (fcG σ (σ.2.2 76 3) v2) (fcG σ (σ.2.2 76 3) (v2 + (1 : Int32))) v1 q1 hb2) (by omega) (by decide +kernel) rfl rfl rfl (Nat.le_of_ble_eq_true rfl) rfl ?_
    show fhW fhYF Γ 62 [(4, .int (fcG σ (σ.2.2 76 3) (v2 + (1 : Int32)))), (3, .int (fcG σ (σ.2.2 76 3) v2)), (0, .ref 76), (1, .int v1), (2, .int v2)] [] q2
    refine fhW.blk fhPF fhLL hΓ [(.aload_n 0, 0), (.iload_n 3, 0), (.iload 4, 0)] (pc' := 66) (lv' := [(4, .int (fcG σ (σ.2.2 76 3) (v2 + (1 : Int32)))), (3, .int (fcG σ (σ.2.2 76 3) v2)), (0, .ref 76), (1, .int v1), (2, .int v2)]) (st' := [.int (fcG σ (σ.2.2 76 3) (v2 + (1 : Int32))), .int (fcG σ (σ.2.2 76 3) v2), .ref 76]) (σ' := q2) (by decide +kernel) rfl rfl rfl ?_
    obtain ⟨q3, hb3, h⟩ := Option.bind_eq_some_iff.mp h
    refine fhW.callv hΓ mvX1_splitGroup ml_1_89 (t := 76) (ci := 1) (av := [.int (fcG σ (σ.2.2 76 3) v2), .int (fcG σ (σ.2.2 76 3) (v2 + (1 : Int32)))]) (rest := []) (r := none) (σ' := q3) (T_X1_splitGroup (E := fhEn Γ) (d := fhD Γ - 1) hE (by omega) (fcG σ (σ.2.2 76 3) v2) (fcG σ (σ.2.2 76 3) (v2 + (1 : Int32))) q2 hb3) (by omega) (by decide +kernel) rfl rfl rfl (Nat.le_of_ble_eq_true rfl) rfl ?_
    show fhW fhYF Γ 69 [(4, .int (fcG σ (σ.2.2 76 3) (v2 + (1 : Int32)))), (3, .int (fcG σ (σ.2.2 76 3) v2)), (0, .ref 76), (1, .int v1), (2, .int v2)] [] q3
    refine fhW.blk fhPF fhLL hΓ [(.iinc 2 1, 1)] (pc' := 72) (lv' := [(2, .int (v2 + (1 : Int32))), (4, .int (fcG σ (σ.2.2 76 3) (v2 + (1 : Int32)))), (3, .int (fcG σ (σ.2.2 76 3) v2)), (0, .ref 76), (1, .int v1)]) (st' := []) (σ' := q3) (by decide +kernel) rfl rfl rfl ?_
    refine fhW.goto hΓ (off := (-65)) (tgt := 7) (by decide +kernel) ?_
    refine fhW.sub (lv' := [(0, .ref 76), (1, .int v1), (2, .int (v2 + (1 : Int32)))]) [3, 4, 0] rfl ?_
    have e9 := Option.some.inj h
    subst e9
    exact hk
set_option maxRecDepth 100000 in
set_option maxHeartbeats 4000000 in
theorem L_X1_splitGroups_E {Γ : fhX} (hE : fhEok fhYF (fhEn Γ)) (hΓ : fhOk fhYF 1 cX1_splitGroups 5 none Γ) (hd : 3 ≤ fhD Γ) (v1 : Int32)  (σ : fhM) (o : fhM) (h : f_X1_splitGroups v1 σ = some o) (hk : (fun o => fhRet Γ none o) o) : fhW fhYF Γ 0 [(0, .ref 76), (1, .int v1)] [] σ := by
  unfold f_X1_splitGroups at h
  refine fhW.blk fhPF fhLL hΓ [(.aload_n 0, 0), (.iconst 0, 0), (.putfield 78, 0), (.iconst 0, 0), (.istore_n 2, 0)] (pc' := 7) (lv' := [(2, .int (0 : Int32)), (0, .ref 76), (1, .int v1)]) (st' := []) (σ' := (fhI σ 76 6 (0 : Int32))) (by decide +kernel) rfl rfl rfl ?_
  refine fhW.sub (lv' := [(0, .ref 76), (1, .int v1), (2, .int (0 : Int32))]) [1, 2, 0] rfl ?_
  exact fhlp_ok (W := (fun x => fhW fhYF Γ 7 [(0, .ref 76), (1, .int v1), (2, .int x.1)] [] x.2)) (B := (fun o => fhRet Γ none o)) (fun x o h hk => L_X1_splitGroups_7 hE hΓ hd v1 x.1 x.2 o h hk) ((0 : Int32), (fhI σ 76 6 (0 : Int32))) _ h hk
set_option maxRecDepth 100000 in
theorem T_X1_splitGroups {E : fhE} {d : Nat} (hE : fhEok fhYF E) (hd : 3 ≤ d) (v1 : Int32)  (σ : fhM) {o : fhM} (h : f_X1_splitGroups v1 σ = some o) : fhC fhYF E d miX1_splitGroups [.ref 76, .int v1] σ none o := by
  refine fhC.of (y := yX1_splitGroups) (cc := cX1_splitGroups) (nL := 5) (ret := none) 1 rfl (by decide +kernel) (Nat.le_of_ble_eq_true rfl) ?_
  intro Γ hΓ hR hD hEn
  subst hD; subst hEn
  exact L_X1_splitGroups_E hE hΓ hd v1  σ _ h hR
set_option maxRecDepth 100000 in
set_option maxHeartbeats 4000000 in
theorem L_X1_prepare_54 {Γ : fhX} (hE : fhEok fhYF (fhEn Γ)) (hΓ : fhOk fhYF 1 cX1_prepare 4 none Γ) (hd : 4 ≤ fhD Γ) (v2 : Int32) (s0 : Int32)  (σ : fhM) (o : (Int32 × Int32 × fhM) ⊕ (fhM)) (h : f_X1_prepare_54 v2 s0 σ = some o) (hk : (fhK (fun x => fhW fhYF Γ 21 [(0, .ref 76), (1, .int x.1), (2, .int x.2.1)] [] x.2.2) (fun o => fhRet Γ none o)) o) : fhW fhYF Γ 54 [(0, .ref 76), (2, .int v2)] [.int s0] σ := by
  unfold f_X1_prepare_54 at h
  refine fhW.blk fhPF fhLL hΓ [(.istore_n 1, 0), (.iinc 2 1, 1)] (pc' := 58) (lv' := [(2, .int (v2 + (1 : Int32))), (1, .int s0), (0, .ref 76)]) (st' := []) (σ' := σ) (by decide +kernel) rfl rfl rfl ?_
  refine fhW.goto hΓ (off := (-37)) (tgt := 21) (by decide +kernel) ?_
  refine fhW.sub (lv' := [(0, .ref 76), (1, .int s0), (2, .int (v2 + (1 : Int32)))]) [2, 1, 0] rfl ?_
  have e9 := Option.some.inj h
  subst e9
  exact hk
set_option maxRecDepth 100000 in
set_option maxHeartbeats 4000000 in
theorem L_X1_prepare_21 {Γ : fhX} (hE : fhEok fhYF (fhEn Γ)) (hΓ : fhOk fhYF 1 cX1_prepare 4 none Γ) (hd : 4 ≤ fhD Γ) (v1 : Int32) (v2 : Int32)  (σ : fhM) (o : (Int32 × Int32 × fhM) ⊕ (fhM)) (h : f_X1_prepare_21 v1 v2 σ = some o) (hk : (fhK (fun x => fhW fhYF Γ 21 [(0, .ref 76), (1, .int x.1), (2, .int x.2.1)] [] x.2.2) (fun o => fhRet Γ none o)) o) : fhW fhYF Γ 21 [(0, .ref 76), (1, .int v1), (2, .int v2)] [] σ := by
  unfold f_X1_prepare_21 at h
  refine fhW.blk fhPF fhLL hΓ [(.iload_n 2, 0), (.bipush 20, 20)] (pc' := 24) (lv' := [(0, .ref 76), (1, .int v1), (2, .int v2)]) (st' := [.int (20 : Int32), .int v2]) (σ' := σ) (by decide +kernel) rfl rfl rfl ?_
  refine fhW.i_gt hΓ (tgt := 61) (show fhbk _ _ (.if_icmp .gt (37)) _ = true by decide +kernel) (fun hc => ?_) (fun hc => ?_)
  · rw [if_pos hc] at h
    have e9 := Option.some.inj h
    subst e9
    exact fhW.vret hΓ (by decide +kernel) hk
  · rw [if_neg hc] at h
    refine fhW.blk fhPF fhLL hΓ [(.iload_n 1, 0)] (pc' := 28) (lv' := [(0, .ref 76), (1, .int v1), (2, .int v2)]) (st' := [.int v1]) (σ' := σ) (by decide +kernel) rfl rfl rfl ?_
    refine fhW.z_eq hΓ (tgt := 61) (show fhbk _ _ (.ifCond .eq (33)) _ = true by decide +kernel) (fun hc => ?_) (fun hc => ?_)
    · rw [if_pos hc] at h
      have e9 := Option.some.inj h
      subst e9
      exact fhW.vret hΓ (by decide +kernel) hk
    · rw [if_neg hc] at h
      refine fhW.blk fhPF fhLL hΓ [(.aload_n 0, 0), (.getfield 56, 0), (.istore_n 3, 0), (.aload_n 0, 0), (.iload_n 2, 0)] (pc' := 38) (lv' := [(3, .int (σ.1 76 5)), (0, .ref 76), (1, .int v1), (2, .int v2)]) (st' := [.int v2, .ref 76]) (σ' := σ) (by decide +kernel) rfl rfl rfl ?_
      obtain ⟨q2, hb1, h⟩ := Option.bind_eq_some_iff.mp h
      refine fhW.callv hΓ mvX1_splitGroups ml_1_59 (t := 76) (ci := 1) (av := [.int v2]) (rest := []) (r := none) (σ' := q2) (T_X1_splitGroups (E := fhEn Γ) (d := fhD Γ - 1) hE (by omega) v2 σ hb1) (by omega) (by decide +kernel) rfl rfl rfl (Nat.le_of_ble_eq_true rfl) rfl ?_
      show fhW fhYF Γ 41 [(3, .int (σ.1 76 5)), (0, .ref 76), (1, .int v1), (2, .int v2)] [] q2
      refine fhW.blk fhPF fhLL hΓ [(.aload_n 0, 0), (.getfield 56, 0), (.iload_n 3, 0)] (pc' := 46) (lv' := [(3, .int (σ.1 76 5)), (0, .ref 76), (1, .int v1), (2, .int v2)]) (st' := [.int (σ.1 76 5), .int (q2.1 76 5)]) (σ' := q2) (by decide +kernel) rfl rfl rfl ?_
      refine fhW.i_le hΓ (tgt := 53) (show fhbk _ _ (.if_icmp .le (7)) _ = true by decide +kernel) (fun hc => ?_) (fun hc => ?_)
      · simp only [if_pos hc] at h
        refine fhW.blk fhPF fhLL hΓ [(.iconst 0, 0)] (pc' := 54) (lv' := [(3, .int (σ.1 76 5)), (0, .ref 76), (1, .int v1), (2, .int v2)]) (st' := [.int (0 : Int32)]) (σ' := q2) (by decide +kernel) rfl rfl rfl ?_
        refine fhW.sub (lv' := [(0, .ref 76), (2, .int v2)]) [1, 3] rfl ?_
        exact L_X1_prepare_54 hE hΓ hd v2 (0 : Int32) q2 _ h hk
      · simp only [if_neg hc] at h
        refine fhW.blk fhPF fhLL hΓ [(.iconst 1, 1)] (pc' := 50) (lv' := [(3, .int (σ.1 76 5)), (0, .ref 76), (1, .int v1), (2, .int v2)]) (st' := [.int (1 : Int32)]) (σ' := q2) (by decide +kernel) rfl rfl rfl ?_
        refine fhW.goto hΓ (off := 4) (tgt := 54) (by decide +kernel) ?_
        refine fhW.sub (lv' := [(0, .ref 76), (2, .int v2)]) [1, 3] rfl ?_
        exact L_X1_prepare_54 hE hΓ hd v2 (1 : Int32) q2 _ h hk
set_option maxRecDepth 100000 in
set_option maxHeartbeats 4000000 in
theorem L_X1_prepare_E {Γ : fhX} (hE : fhEok fhYF (fhEn Γ)) (hΓ : fhOk fhYF 1 cX1_prepare 4 none Γ) (hd : 4 ≤ fhD Γ)   (σ : fhM) (o : fhM) (h : f_X1_prepare σ = some o) (hk : (fun o => fhRet Γ none o) o) : fhW fhYF Γ 0 [(0, .ref 76)] [] σ := by
  unfold f_X1_prepare at h
  refine fhW.blk fhPF fhLL hΓ [(.aload_n 0, 0), (.getfield 45, 0)] (pc' := 4) (lv' := [(0, .ref 76)]) (st' := [.int (σ.1 76 9)]) (σ' := σ) (by decide +kernel) rfl rfl rfl ?_
  refine fhW.z_eq hΓ (tgt := 8) (show fhbk _ _ (.ifCond .eq (4)) _ = true by decide +kernel) (fun hc => ?_) (fun hc => ?_)
  · rw [if_pos hc] at h
    refine fhW.blk fhPF fhLL hΓ [(.aload_n 0, 0), (.iconst 1, 1), (.putfield 45, 0), (.aload_n 0, 0)] (pc' := 14) (lv' := [(0, .ref 76)]) (st' := [.ref 76]) (σ' := (fhI σ 76 9 (1 : Int32))) (by decide +kernel) rfl rfl rfl ?_
    obtain ⟨q1, hb2, h⟩ := Option.bind_eq_some_iff.mp h
    refine fhW.callv hΓ mvX1_start ml_1_53 (t := 76) (ci := 1) (av := []) (rest := []) (r := none) (σ' := q1) (T_X1_start (E := fhEn Γ) (d := fhD Γ - 1) hE (by omega) (fhI σ 76 9 (1 : Int32)) hb2) (by omega) (by decide +kernel) rfl rfl rfl (Nat.le_of_ble_eq_true rfl) rfl ?_
    show fhW fhYF Γ 17 [(0, .ref 76)] [] q1
    refine fhW.blk fhPF fhLL hΓ [(.iconst 1, 1), (.istore_n 1, 0), (.iconst 0, 0), (.istore_n 2, 0)] (pc' := 21) (lv' := [(2, .int (0 : Int32)), (1, .int (1 : Int32)), (0, .ref 76)]) (st' := []) (σ' := q1) (by decide +kernel) rfl rfl rfl ?_
    refine fhW.sub (lv' := [(0, .ref 76), (1, .int (1 : Int32)), (2, .int (0 : Int32))]) [2, 1, 0] rfl ?_
    exact fhlp_ok (W := (fun x => fhW fhYF Γ 21 [(0, .ref 76), (1, .int x.1), (2, .int x.2.1)] [] x.2.2)) (B := (fun o => fhRet Γ none o)) (fun x o h hk => L_X1_prepare_21 hE hΓ hd x.1 x.2.1 x.2.2 o h hk) ((1 : Int32), (0 : Int32), q1) _ h hk
  · rw [if_neg hc] at h
    have e9 := Option.some.inj h
    subst e9
    exact fhW.vret hΓ (by decide +kernel) hk
set_option maxRecDepth 100000 in
theorem T_X1_prepare {E : fhE} {d : Nat} (hE : fhEok fhYF E) (hd : 4 ≤ d)   (σ : fhM) {o : fhM} (h : f_X1_prepare σ = some o) : fhC fhYF E d miX1_prepare [.ref 76] σ none o := by
  refine fhC.of (y := yX1_prepare) (cc := cX1_prepare) (nL := 4) (ret := none) 1 rfl (by decide +kernel) (Nat.le_of_ble_eq_true rfl) ?_
  intro Γ hΓ hR hD hEn
  subst hD; subst hEn
  exact L_X1_prepare_E hE hΓ hd   σ _ h hR
set_option maxRecDepth 100000 in
set_option maxHeartbeats 4000000 in
theorem L_X1_firstKnown_E {Γ : fhX} (hE : fhEok fhYF (fhEn Γ)) (hΓ : fhOk fhYF 1 cX1_firstKnown 3 (some .int) Γ) (hd : 1 ≤ fhD Γ) (v1 : Int32) (v2 : Int32)  (σ : fhM) (o : Int32) (h : f_X1_firstKnown v1 v2 σ = o) (hk : (fun o => fhRet Γ (some (.int o)) σ) o) : fhW fhYF Γ 0 [(0, .ref 76), (1, .int v1), (2, .int v2)] [] σ := by
  unfold f_X1_firstKnown at h
  refine fhW.blk fhPF fhLL hΓ [(.aload_n 0, 0), (.getfield 32, 0), (.iload_n 1, 0), (.iconst 5, 5), (.imul, 0), (.iload_n 2, 0), (.iadd, 0)] (pc' := 9) (lv' := [(0, .ref 76), (1, .int v1), (2, .int v2)]) (st' := [.int ((v1 * (5 : Int32)) + v2), .ref 87]) (σ' := σ) (by decide +kernel) rfl rfl rfl ?_
  refine fhW.callv hΓ mvX2_get ml_1_70 (t := 87) (ci := 2) (av := [.int ((v1 * (5 : Int32)) + v2)]) (rest := []) (r := (some (.int (fcG σ 87 ((v1 * (5 : Int32)) + v2))))) (σ' := σ) (T_X2_get (E := fhEn Γ) (d := fhD Γ - 1) hE (by omega) 87 ((v1 * (5 : Int32)) + v2) rfl σ) (by omega) (by decide +kernel) rfl rfl rfl (Nat.le_of_ble_eq_true rfl) rfl ?_
  show fhW fhYF Γ 12 [(0, .ref 76), (1, .int v1), (2, .int v2)] [.int (fcG σ 87 ((v1 * (5 : Int32)) + v2))] σ
  subst h
  exact fhW.iret hΓ (by decide +kernel) hk
set_option maxRecDepth 100000 in
theorem T_X1_firstKnown {E : fhE} {d : Nat} (hE : fhEok fhYF E) (hd : 1 ≤ d) (v1 : Int32) (v2 : Int32)  (σ : fhM) : fhC fhYF E d miX1_firstKnown [.ref 76, .int v1, .int v2] σ (some (.int (f_X1_firstKnown v1 v2 σ))) σ := by
  refine fhC.of (y := yX1_firstKnown) (cc := cX1_firstKnown) (nL := 3) (ret := (some .int)) 1 rfl (by decide +kernel) (Nat.le_of_ble_eq_true rfl) ?_
  intro Γ hΓ hR hD hEn
  subst hD; subst hEn
  exact L_X1_firstKnown_E hE hΓ hd v1 v2  σ _ rfl hR
set_option maxRecDepth 100000 in
set_option maxHeartbeats 4000000 in
theorem L_X1_slowestRow_67 {Γ : fhX} (hE : fhEok fhYF (fhEn Γ)) (hΓ : fhOk fhYF 1 cX1_slowestRow 6 (some .int) Γ) (hd : 2 ≤ fhD Γ) (v1 : Int32) (v2 : Int32) (v3 : Int32) (v4 : Int32)  (σ : fhM) (o : (Int32 × Int32 × Int32) ⊕ (Int32)) (h : f_X1_slowestRow_67 v1 v2 v3 v4 σ = some o) (hk : (fhK (fun x => fhW fhYF Γ 7 [(0, .ref 76), (1, .int v1), (2, .int x.1), (3, .int x.2.1), (4, .int x.2.2)] [] σ) (fun o => fhRet Γ (some (.int o)) σ)) o) : fhW fhYF Γ 67 [(0, .ref 76), (1, .int v1), (2, .int v2), (3, .int v3), (4, .int v4)] [] σ := by
  unfold f_X1_slowestRow_67 at h
  refine fhW.blk fhPF fhLL hΓ [(.iinc 4 1, 1)] (pc' := 70) (lv' := [(4, .int (v4 + (1 : Int32))), (0, .ref 76), (1, .int v1), (2, .int v2), (3, .int v3)]) (st' := []) (σ' := σ) (by decide +kernel) rfl rfl rfl ?_
  refine fhW.goto hΓ (off := (-63)) (tgt := 7) (by decide +kernel) ?_
  refine fhW.sub (lv' := [(0, .ref 76), (1, .int v1), (2, .int v2), (3, .int v3), (4, .int (v4 + (1 : Int32)))]) [1, 2, 3, 4, 0] rfl ?_
  have e9 := Option.some.inj h
  subst e9
  exact hk
set_option maxRecDepth 100000 in
set_option maxHeartbeats 4000000 in
theorem L_X1_slowestRow_7 {Γ : fhX} (hE : fhEok fhYF (fhEn Γ)) (hΓ : fhOk fhYF 1 cX1_slowestRow 6 (some .int) Γ) (hd : 2 ≤ fhD Γ) (v1 : Int32) (v2 : Int32) (v3 : Int32) (v4 : Int32)  (σ : fhM) (o : (Int32 × Int32 × Int32) ⊕ (Int32)) (h : f_X1_slowestRow_7 v1 v2 v3 v4 σ = some o) (hk : (fhK (fun x => fhW fhYF Γ 7 [(0, .ref 76), (1, .int v1), (2, .int x.1), (3, .int x.2.1), (4, .int x.2.2)] [] σ) (fun o => fhRet Γ (some (.int o)) σ)) o) : fhW fhYF Γ 7 [(0, .ref 76), (1, .int v1), (2, .int v2), (3, .int v3), (4, .int v4)] [] σ := by
  unfold f_X1_slowestRow_7 at h
  refine fhW.blk fhPF fhLL hΓ [(.iload 4, 0), (.aload_n 0, 0), (.getfield 41, 0), (.getfield 62, 0)] (pc' := 16) (lv' := [(0, .ref 76), (1, .int v1), (2, .int v2), (3, .int v3), (4, .int v4)]) (st' := [.int (σ.1 39 12), .int v4]) (σ' := σ) (by decide +kernel) rfl rfl rfl ?_
  refine fhW.i_ge hΓ (tgt := 73) (show fhbk _ _ (.if_icmp .ge (57)) _ = true by decide +kernel) (fun hc => ?_) (fun hc => ?_)
  · rw [if_pos hc] at h
    refine fhW.blk fhPF fhLL hΓ [(.iload_n 2, 0)] (pc' := 74) (lv' := [(0, .ref 76), (1, .int v1), (2, .int v2), (3, .int v3), (4, .int v4)]) (st' := [.int v2]) (σ' := σ) (by decide +kernel) rfl rfl rfl ?_
    have e9 := Option.some.inj h
    subst e9
    exact fhW.iret hΓ (by decide +kernel) hk
  · rw [if_neg hc] at h
    refine fhW.blk fhPF fhLL hΓ [(.aload_n 0, 0), (.aload_n 0, 0), (.getfield 41, 0), (.getfield 67, 0), (.iload 4, 0)] (pc' := 29) (lv' := [(0, .ref 76), (1, .int v1), (2, .int v2), (3, .int v3), (4, .int v4)]) (st' := [.int v4, .ref 54, .ref 76]) (σ' := σ) (by decide +kernel) rfl rfl rfl ?_
    refine fhW.callv hΓ mvX2_get ml_1_70 (t := 54) (ci := 2) (av := [.int v4]) (rest := [.ref 76]) (r := (some (.int (fcG σ 54 v4)))) (σ' := σ) (T_X2_get (E := fhEn Γ) (d := fhD Γ - 1) hE (by omega) 54 v4 rfl σ) (by omega) (by decide +kernel) rfl rfl rfl (Nat.le_of_ble_eq_true rfl) rfl ?_
    show fhW fhYF Γ 32 [(0, .ref 76), (1, .int v1), (2, .int v2), (3, .int v3), (4, .int v4)] [.int (fcG σ 54 v4), .ref 76] σ
    refine fhW.blk fhPF fhLL hΓ [(.iload_n 1, 0)] (pc' := 33) (lv' := [(0, .ref 76), (1, .int v1), (2, .int v2), (3, .int v3), (4, .int v4)]) (st' := [.int v1, .int (fcG σ 54 v4), .ref 76]) (σ' := σ) (by decide +kernel) rfl rfl rfl ?_
    refine fhW.callv hΓ mvX1_firstKnown ml_1_101 (t := 76) (ci := 1) (av := [.int (fcG σ 54 v4), .int v1]) (rest := []) (r := (some (.int (f_X1_firstKnown (fcG σ 54 v4) v1 σ)))) (σ' := σ) (T_X1_firstKnown (E := fhEn Γ) (d := fhD Γ - 1) hE (by omega) (fcG σ 54 v4) v1 σ) (by omega) (by decide +kernel) rfl rfl rfl (Nat.le_of_ble_eq_true rfl) rfl ?_
    show fhW fhYF Γ 36 [(0, .ref 76), (1, .int v1), (2, .int v2), (3, .int v3), (4, .int v4)] [.int (f_X1_firstKnown (fcG σ 54 v4) v1 σ)] σ
    refine fhW.blk fhPF fhLL hΓ [(.istore 5, 0), (.iload 5, 0), (.bipush 20, 20)] (pc' := 42) (lv' := [(5, .int (f_X1_firstKnown (fcG σ 54 v4) v1 σ)), (0, .ref 76), (1, .int v1), (2, .int v2), (3, .int v3), (4, .int v4)]) (st' := [.int (20 : Int32), .int (f_X1_firstKnown (fcG σ 54 v4) v1 σ)]) (σ' := σ) (by decide +kernel) rfl rfl rfl ?_
    refine fhW.i_gt hΓ (tgt := 67) (show fhbk _ _ (.if_icmp .gt (25)) _ = true by decide +kernel) (fun hc => ?_) (fun hc => ?_)
    · simp only [if_pos hc] at h
      refine fhW.sub (lv' := [(0, .ref 76), (1, .int v1), (2, .int v2), (3, .int v3), (4, .int v4)]) [1, 2, 3, 4, 5] rfl ?_
      exact L_X1_slowestRow_67 hE hΓ hd v1 v2 v3 v4 σ _ h hk
    · simp only [if_neg hc] at h
      refine fhW.blk fhPF fhLL hΓ [(.iload 5, 0), (.iload_n 3, 0)] (pc' := 48) (lv' := [(5, .int (f_X1_firstKnown (fcG σ 54 v4) v1 σ)), (0, .ref 76), (1, .int v1), (2, .int v2), (3, .int v3), (4, .int v4)]) (st' := [.int v3, .int (f_X1_firstKnown (fcG σ 54 v4) v1 σ)]) (σ' := σ) (by decide +kernel) rfl rfl rfl ?_
      refine fhW.i_le hΓ (tgt := 67) (show fhbk _ _ (.if_icmp .le (19)) _ = true by decide +kernel) (fun hc => ?_) (fun hc => ?_)
      · simp only [if_pos hc] at h
        refine fhW.sub (lv' := [(0, .ref 76), (1, .int v1), (2, .int v2), (3, .int v3), (4, .int v4)]) [1, 2, 3, 4, 5] rfl ?_
        exact L_X1_slowestRow_67 hE hΓ hd v1 v2 v3 v4 σ _ h hk
      · simp only [if_neg hc] at h
        refine fhW.blk fhPF fhLL hΓ [(.aload_n 0, 0), (.getfield 41, 0), (.getfield 67, 0), (.iload 4, 0)] (pc' := 60) (lv' := [(5, .int (f_X1_firstKnown (fcG σ 54 v4) v1 σ)), (0, .ref 76), (1, .int v1), (2, .int v2), (3, .int v3), (4, .int v4)]) (st' := [.int v4, .ref 54]) (σ' := σ) (by decide +kernel) rfl rfl rfl ?_
        refine fhW.callv hΓ mvX2_get ml_1_70 (t := 54) (ci := 2) (av := [.int v4]) (rest := []) (r := (some (.int (fcG σ 54 v4)))) (σ' := σ) (T_X2_get (E := fhEn Γ) (d := fhD Γ - 1) hE (by omega) 54 v4 rfl σ) (by omega) (by decide +kernel) rfl rfl rfl (Nat.le_of_ble_eq_true rfl) rfl ?_
        show fhW fhYF Γ 63 [(5, .int (f_X1_firstKnown (fcG σ 54 v4) v1 σ)), (0, .ref 76), (1, .int v1), (2, .int v2), (3, .int v3), (4, .int v4)] [.int (fcG σ 54 v4)] σ
        refine fhW.blk fhPF fhLL hΓ [(.istore_n 2, 0), (.iload 5, 0), (.istore_n 3, 0)] (pc' := 67) (lv' := [(3, .int (f_X1_firstKnown (fcG σ 54 v4) v1 σ)), (2, .int (fcG σ 54 v4)), (5, .int (f_X1_firstKnown (fcG σ 54 v4) v1 σ)), (0, .ref 76), (1, .int v1), (4, .int v4)]) (st' := []) (σ' := σ) (by decide +kernel) rfl rfl rfl ?_
        refine fhW.sub (lv' := [(0, .ref 76), (1, .int v1), (2, .int (fcG σ 54 v4)), (3, .int (f_X1_firstKnown (fcG σ 54 v4) v1 σ)), (4, .int v4)]) [3, 4, 1, 0, 5] rfl ?_
        exact L_X1_slowestRow_67 hE hΓ hd v1 (fcG σ 54 v4) (f_X1_firstKnown (fcG σ 54 v4) v1 σ) v4 σ _ h hk
set_option maxRecDepth 100000 in
set_option maxHeartbeats 4000000 in
theorem L_X1_slowestRow_E {Γ : fhX} (hE : fhEok fhYF (fhEn Γ)) (hΓ : fhOk fhYF 1 cX1_slowestRow 6 (some .int) Γ) (hd : 2 ≤ fhD Γ) (v1 : Int32)  (σ : fhM) (o : Int32) (h : f_X1_slowestRow v1 σ = some o) (hk : (fun o => fhRet Γ (some (.int o)) σ) o) : fhW fhYF Γ 0 [(0, .ref 76), (1, .int v1)] [] σ := by
  unfold f_X1_slowestRow at h
  refine fhW.blk fhPF fhLL hΓ [(.iconst (-1), -1), (.istore_n 2, 0), (.iconst (-1), -1), (.istore_n 3, 0), (.iconst 0, 0), (.istore 4, 0)] (pc' := 7) (lv' := [(4, .int (0 : Int32)), (3, .int (-1 : Int32)), (2, .int (-1 : Int32)), (0, .ref 76), (1, .int v1)]) (st' := []) (σ' := σ) (by decide +kernel) rfl rfl rfl ?_
  refine fhW.sub (lv' := [(0, .ref 76), (1, .int v1), (2, .int (-1 : Int32)), (3, .int (-1 : Int32)), (4, .int (0 : Int32))]) [3, 4, 2, 1, 0] rfl ?_
  exact fhlp_ok (W := (fun x => fhW fhYF Γ 7 [(0, .ref 76), (1, .int v1), (2, .int x.1), (3, .int x.2.1), (4, .int x.2.2)] [] σ)) (B := (fun o => fhRet Γ (some (.int o)) σ)) (fun x o h hk => L_X1_slowestRow_7 hE hΓ hd v1 x.1 x.2.1 x.2.2 σ o h hk) ((-1 : Int32), (-1 : Int32), (0 : Int32)) _ h hk
set_option maxRecDepth 100000 in
theorem T_X1_slowestRow {E : fhE} {d : Nat} (hE : fhEok fhYF E) (hd : 2 ≤ d) (v1 : Int32)  (σ : fhM) {o : Int32} (h : f_X1_slowestRow v1 σ = some o) : fhC fhYF E d miX1_slowestRow [.ref 76, .int v1] σ (some (.int o)) σ := by
  refine fhC.of (y := yX1_slowestRow) (cc := cX1_slowestRow) (nL := 6) (ret := (some .int)) 1 rfl (by decide +kernel) (Nat.le_of_ble_eq_true rfl) ?_
  intro Γ hΓ hR hD hEn
  subst hD; subst hEn
  exact L_X1_slowestRow_E hE hΓ hd v1  σ _ h hR
set_option maxRecDepth 100000 in
set_option maxHeartbeats 4000000 in
theorem L_X11_slowest_E {Γ : fhX} (hE : fhEok fhYF (fhEn Γ)) (hΓ : fhOk fhYF 11 cX11_slowest 4 (some .int) Γ) (hd : 5 ≤ fhD Γ) (v1 : Int32) (v2 : Int32)  (σ : fhM) (o : Int32 × fhM) (h : f_X11_slowest v1 v2 σ = some o) (hk : (fun o => fhRet Γ (some (.int o.1)) o.2) o) : fhW fhYF Γ 0 [(0, .ref 0), (1, .int v1), (2, .int v2)] [] σ := by
  unfold f_X11_slowest at h
  refine fhW.blk fhPF fhLL hΓ [(.aload_n 0, 0), (.iload_n 1, 0)] (pc' := 2) (lv' := [(0, .ref 0), (1, .int v1), (2, .int v2)]) (st' := [.int v1, .ref 0]) (σ' := σ) (by decide +kernel) rfl rfl rfl ?_
  refine fhW.callv hΓ mvX11_isGuest ml_11_201 (t := 0) (ci := 11) (av := [.int v1]) (rest := []) (r := (some (.int (fhb (f_X11_isGuest v1 σ))))) (σ' := σ) (T_X11_isGuest (E := fhEn Γ) (d := fhD Γ - 1) hE (by omega) v1 σ) (by omega) (by decide +kernel) rfl rfl rfl (Nat.le_of_ble_eq_true rfl) rfl ?_
  show fhW fhYF Γ 5 [(0, .ref 0), (1, .int v1), (2, .int v2)] [.int (fhb (f_X11_isGuest v1 σ))] σ
  refine fhW.b_eq hΓ (tgt := 17) (show fhbk _ _ (.ifCond .eq (12)) _ = true by decide +kernel) (fun hc => ?_) (fun hc => ?_)
  · rw [if_neg hc] at h
    refine fhW.blk fhPF fhLL hΓ [(.iconst (-1), -1)] (pc' := 18) (lv' := [(0, .ref 0), (1, .int v1), (2, .int v2)]) (st' := [.int (-1 : Int32)]) (σ' := σ) (by decide +kernel) rfl rfl rfl ?_
    have e9 := Option.some.inj h
    subst e9
    exact fhW.iret hΓ (by decide +kernel) hk
  · rw [if_pos hc] at h
    refine fhW.blk fhPF fhLL hΓ [(.iload_n 2, 0)] (pc' := 9) (lv' := [(0, .ref 0), (1, .int v1), (2, .int v2)]) (st' := [.int v2]) (σ' := σ) (by decide +kernel) rfl rfl rfl ?_
    refine fhW.z_lt hΓ (tgt := 17) (show fhbk _ _ (.ifCond .lt (8)) _ = true by decide +kernel) (fun hc => ?_) (fun hc => ?_)
    · rw [if_pos hc] at h
      refine fhW.blk fhPF fhLL hΓ [(.iconst (-1), -1)] (pc' := 18) (lv' := [(0, .ref 0), (1, .int v1), (2, .int v2)]) (st' := [.int (-1 : Int32)]) (σ' := σ) (by decide +kernel) rfl rfl rfl ?_
      have e9 := Option.some.inj h
      subst e9
      exact fhW.iret hΓ (by decide +kernel) hk
    · rw [if_neg hc] at h
      refine fhW.blk fhPF fhLL hΓ [(.iload_n 2, 0), (.iconst 1, 1)] (pc' := 14) (lv' := [(0, .ref 0), (1, .int v1), (2, .int v2)]) (st' := [.int (1 : Int32), .int v2]) (σ' := σ) (by decide +kernel) rfl rfl rfl ?_
      refine fhW.i_le hΓ (tgt := 19) (show fhbk _ _ (.if_icmp .le (5)) _ = true by decide +kernel) (fun hc => ?_) (fun hc => ?_)
      · rw [if_pos hc] at h
        refine fhW.blk fhPF fhLL hΓ [(.aload_n 0, 0), (.getfield 79, 0)] (pc' := 23) (lv' := [(0, .ref 0), (1, .int v1), (2, .int v2)]) (st' := [.ref 76]) (σ' := σ) (by decide +kernel) rfl rfl rfl ?_
        obtain ⟨q1, hb1, h⟩ := Option.bind_eq_some_iff.mp h
        refine fhW.callv hΓ mvX1_prepare ml_11_285 (t := 76) (ci := 1) (av := []) (rest := []) (r := none) (σ' := q1) (T_X1_prepare (E := fhEn Γ) (d := fhD Γ - 1) hE (by omega) σ hb1) (by omega) (by decide +kernel) rfl rfl rfl (Nat.le_of_ble_eq_true rfl) rfl ?_
        show fhW fhYF Γ 26 [(0, .ref 0), (1, .int v1), (2, .int v2)] [] q1
        refine fhW.blk fhPF fhLL hΓ [(.aload_n 0, 0), (.getfield 79, 0), (.iload_n 1, 0)] (pc' := 31) (lv' := [(0, .ref 0), (1, .int v1), (2, .int v2)]) (st' := [.int v1, .ref 76]) (σ' := q1) (by decide +kernel) rfl rfl rfl ?_
        obtain ⟨q2, hb2, h⟩ := Option.bind_eq_some_iff.mp h
        refine fhW.callv hΓ mvX1_slowestRow ml_11_288 (t := 76) (ci := 1) (av := [.int v1]) (rest := []) (r := (some (.int q2))) (σ' := q1) (T_X1_slowestRow (E := fhEn Γ) (d := fhD Γ - 1) hE (by omega) v1 q1 hb2) (by omega) (by decide +kernel) rfl rfl rfl (Nat.le_of_ble_eq_true rfl) rfl ?_
        show fhW fhYF Γ 34 [(0, .ref 0), (1, .int v1), (2, .int v2)] [.int q2] q1
        refine fhW.blk fhPF fhLL hΓ [(.istore_n 3, 0), (.iload_n 3, 0), (.iconst (-1), -1)] (pc' := 37) (lv' := [(3, .int q2), (0, .ref 0), (1, .int v1), (2, .int v2)]) (st' := [.int (-1 : Int32), .int q2]) (σ' := q1) (by decide +kernel) rfl rfl rfl ?_
        refine fhW.i_eq hΓ (tgt := 44) (show fhbk _ _ (.if_icmp .eq (7)) _ = true by decide +kernel) (fun hc => ?_) (fun hc => ?_)
        · rw [if_pos hc] at h
          refine fhW.blk fhPF fhLL hΓ [(.iload_n 3, 0)] (pc' := 45) (lv' := [(3, .int q2), (0, .ref 0), (1, .int v1), (2, .int v2)]) (st' := [.int q2]) (σ' := q1) (by decide +kernel) rfl rfl rfl ?_
          have e9 := Option.some.inj h
          subst e9
          exact fhW.iret hΓ (by decide +kernel) hk
        · rw [if_neg hc] at h
          refine fhW.blk fhPF fhLL hΓ [(.iload_n 2, 0)] (pc' := 41) (lv' := [(3, .int q2), (0, .ref 0), (1, .int v1), (2, .int v2)]) (st' := [.int v2]) (σ' := q1) (by decide +kernel) rfl rfl rfl ?_
          refine fhW.z_ne hΓ (tgt := 46) (show fhbk _ _ (.ifCond .ne (5)) _ = true by decide +kernel) (fun hc => ?_) (fun hc => ?_)
          · rw [if_neg hc] at h
            refine fhW.blk fhPF fhLL hΓ [(.aload_n 0, 0), (.getfield 79, 0), (.iload_n 3, 0), (.iload_n 1, 0)] (pc' := 52) (lv' := [(3, .int q2), (0, .ref 0), (1, .int v1), (2, .int v2)]) (st' := [.int v1, .int q2, .ref 76]) (σ' := q1) (by decide +kernel) rfl rfl rfl ?_
            refine fhW.callv hΓ mvX1_firstKnown ml_11_291 (t := 76) (ci := 1) (av := [.int q2, .int v1]) (rest := []) (r := (some (.int (f_X1_firstKnown q2 v1 q1)))) (σ' := q1) (T_X1_firstKnown (E := fhEn Γ) (d := fhD Γ - 1) hE (by omega) q2 v1 q1) (by omega) (by decide +kernel) rfl rfl rfl (Nat.le_of_ble_eq_true rfl) rfl ?_
            show fhW fhYF Γ 55 [(3, .int q2), (0, .ref 0), (1, .int v1), (2, .int v2)] [.int (f_X1_firstKnown q2 v1 q1)] q1
            have e9 := Option.some.inj h
            subst e9
            exact fhW.iret hΓ (by decide +kernel) hk
          · rw [if_pos hc] at h
            refine fhW.blk fhPF fhLL hΓ [(.iload_n 3, 0)] (pc' := 45) (lv' := [(3, .int q2), (0, .ref 0), (1, .int v1), (2, .int v2)]) (st' := [.int q2]) (σ' := q1) (by decide +kernel) rfl rfl rfl ?_
            have e9 := Option.some.inj h
            subst e9
            exact fhW.iret hΓ (by decide +kernel) hk
      · rw [if_neg hc] at h
        refine fhW.blk fhPF fhLL hΓ [(.iconst (-1), -1)] (pc' := 18) (lv' := [(0, .ref 0), (1, .int v1), (2, .int v2)]) (st' := [.int (-1 : Int32)]) (σ' := σ) (by decide +kernel) rfl rfl rfl ?_
        have e9 := Option.some.inj h
        subst e9
        exact fhW.iret hΓ (by decide +kernel) hk
set_option maxRecDepth 100000 in
theorem T_X11_slowest {E : fhE} {d : Nat} (hE : fhEok fhYF E) (hd : 5 ≤ d) (v1 : Int32) (v2 : Int32)  (σ : fhM) {o : Int32 × fhM} (h : f_X11_slowest v1 v2 σ = some o) : fhC fhYF E d miX11_slowest [.ref 0, .int v1, .int v2] σ (some (.int o.1)) o.2 := by
  refine fhC.of (y := yX11_slowest) (cc := cX11_slowest) (nL := 4) (ret := (some .int)) 11 rfl (by decide +kernel) (Nat.le_of_ble_eq_true rfl) ?_
  intro Γ hΓ hR hD hEn
  subst hD; subst hEn
  exact L_X11_slowest_E hE hΓ hd v1 v2  σ _ h hR
set_option maxRecDepth 100000 in
set_option maxHeartbeats 4000000 in
theorem L_X1_countKnowing_44 {Γ : fhX} (hE : fhEok fhYF (fhEn Γ)) (hΓ : fhOk fhYF 1 cX1_countKnowing 5 (some .int) Γ) (hd : 2 ≤ fhD Γ) (v1 : Int32) (v2 : Int32) (v4 : Int32) (s0 : Int32) (s1 : Int32)  (σ : fhM) (o : (Int32 × Int32) ⊕ (Int32)) (h : f_X1_countKnowing_44 v1 v2 v4 s0 s1 σ = some o) (hk : (fhK (fun x => fhW fhYF Γ 5 [(0, .ref 76), (1, .int v1), (2, .int v2), (3, .int x.1), (4, .int x.2)] [] σ) (fun o => fhRet Γ (some (.int o)) σ)) o) : fhW fhYF Γ 44 [(0, .ref 76), (1, .int v1), (2, .int v2), (4, .int v4)] [.int s0, .int s1] σ := by
  unfold f_X1_countKnowing_44 at h
  refine fhW.blk fhPF fhLL hΓ [(.iadd, 0), (.istore_n 3, 0), (.iinc 4 1, 1)] (pc' := 49) (lv' := [(4, .int (v4 + (1 : Int32))), (3, .int (s1 + s0)), (0, .ref 76), (1, .int v1), (2, .int v2)]) (st' := []) (σ' := σ) (by decide +kernel) rfl rfl rfl ?_
  refine fhW.goto hΓ (off := (-44)) (tgt := 5) (by decide +kernel) ?_
  refine fhW.sub (lv' := [(0, .ref 76), (1, .int v1), (2, .int v2), (3, .int (s1 + s0)), (4, .int (v4 + (1 : Int32)))]) [2, 3, 4, 1, 0] rfl ?_
  have e9 := Option.some.inj h
  subst e9
  exact hk
set_option maxRecDepth 100000 in
set_option maxHeartbeats 4000000 in
theorem L_X1_countKnowing_5 {Γ : fhX} (hE : fhEok fhYF (fhEn Γ)) (hΓ : fhOk fhYF 1 cX1_countKnowing 5 (some .int) Γ) (hd : 2 ≤ fhD Γ) (v1 : Int32) (v2 : Int32) (v3 : Int32) (v4 : Int32)  (σ : fhM) (o : (Int32 × Int32) ⊕ (Int32)) (h : f_X1_countKnowing_5 v1 v2 v3 v4 σ = some o) (hk : (fhK (fun x => fhW fhYF Γ 5 [(0, .ref 76), (1, .int v1), (2, .int v2), (3, .int x.1), (4, .int x.2)] [] σ) (fun o => fhRet Γ (some (.int o)) σ)) o) : fhW fhYF Γ 5 [(0, .ref 76), (1, .int v1), (2, .int v2), (3, .int v3), (4, .int v4)] [] σ := by
  unfold f_X1_countKnowing_5 at h
  refine fhW.blk fhPF fhLL hΓ [(.iload 4, 0), (.aload_n 0, 0), (.getfield 41, 0), (.getfield 62, 0)] (pc' := 14) (lv' := [(0, .ref 76), (1, .int v1), (2, .int v2), (3, .int v3), (4, .int v4)]) (st' := [.int (σ.1 39 12), .int v4]) (σ' := σ) (by decide +kernel) rfl rfl rfl ?_
  refine fhW.i_ge hΓ (tgt := 52) (show fhbk _ _ (.if_icmp .ge (38)) _ = true by decide +kernel) (fun hc => ?_) (fun hc => ?_)
  · rw [if_pos hc] at h
    refine fhW.blk fhPF fhLL hΓ [(.iload_n 3, 0)] (pc' := 53) (lv' := [(0, .ref 76), (1, .int v1), (2, .int v2), (3, .int v3), (4, .int v4)]) (st' := [.int v3]) (σ' := σ) (by decide +kernel) rfl rfl rfl ?_
    have e9 := Option.some.inj h
    subst e9
    exact fhW.iret hΓ (by decide +kernel) hk
  · rw [if_neg hc] at h
    refine fhW.blk fhPF fhLL hΓ [(.iload_n 3, 0), (.aload_n 0, 0), (.aload_n 0, 0), (.getfield 41, 0), (.getfield 67, 0), (.iload 4, 0)] (pc' := 28) (lv' := [(0, .ref 76), (1, .int v1), (2, .int v2), (3, .int v3), (4, .int v4)]) (st' := [.int v4, .ref 54, .ref 76, .int v3]) (σ' := σ) (by decide +kernel) rfl rfl rfl ?_
    refine fhW.callv hΓ mvX2_get ml_1_70 (t := 54) (ci := 2) (av := [.int v4]) (rest := [.ref 76, .int v3]) (r := (some (.int (fcG σ 54 v4)))) (σ' := σ) (T_X2_get (E := fhEn Γ) (d := fhD Γ - 1) hE (by omega) 54 v4 rfl σ) (by omega) (by decide +kernel) rfl rfl rfl (Nat.le_of_ble_eq_true rfl) rfl ?_
    show fhW fhYF Γ 31 [(0, .ref 76), (1, .int v1), (2, .int v2), (3, .int v3), (4, .int v4)] [.int (fcG σ 54 v4), .ref 76, .int v3] σ
    refine fhW.blk fhPF fhLL hΓ [(.iload_n 1, 0)] (pc' := 32) (lv' := [(0, .ref 76), (1, .int v1), (2, .int v2), (3, .int v3), (4, .int v4)]) (st' := [.int v1, .int (fcG σ 54 v4), .ref 76, .int v3]) (σ' := σ) (by decide +kernel) rfl rfl rfl ?_
    refine fhW.callv hΓ mvX1_firstKnown ml_1_101 (t := 76) (ci := 1) (av := [.int (fcG σ 54 v4), .int v1]) (rest := [.int v3]) (r := (some (.int (f_X1_firstKnown (fcG σ 54 v4) v1 σ)))) (σ' := σ) (T_X1_firstKnown (E := fhEn Γ) (d := fhD Γ - 1) hE (by omega) (fcG σ 54 v4) v1 σ) (by omega) (by decide +kernel) rfl rfl rfl (Nat.le_of_ble_eq_true rfl) rfl ?_
    show fhW fhYF Γ 35 [(0, .ref 76), (1, .int v1), (2, .int v2), (3, .int v3), (4, .int v4)] [.int (f_X1_firstKnown (fcG σ 54 v4) v1 σ), .int v3] σ
    refine fhW.blk fhPF fhLL hΓ [(.iload_n 2, 0)] (pc' := 36) (lv' := [(0, .ref 76), (1, .int v1), (2, .int v2), (3, .int v3), (4, .int v4)]) (st' := [.int v2, .int (f_X1_firstKnown (fcG σ 54 v4) v1 σ), .int v3]) (σ' := σ) (by decide +kernel) rfl rfl rfl ?_
    refine fhW.i_gt hΓ (tgt := 43) (show fhbk _ _ (.if_icmp .gt (7)) _ = true by decide +kernel) (fun hc => ?_) (fun hc => ?_)
    · simp only [if_pos hc] at h
      refine fhW.blk fhPF fhLL hΓ [(.iconst 0, 0)] (pc' := 44) (lv' := [(0, .ref 76), (1, .int v1), (2, .int v2), (3, .int v3), (4, .int v4)]) (st' := [.int (0 : Int32), .int v3]) (σ' := σ) (by decide +kernel) rfl rfl rfl ?_
      refine fhW.sub (lv' := [(0, .ref 76), (1, .int v1), (2, .int v2), (4, .int v4)]) [0, 1, 2, 4] rfl ?_
      exact L_X1_countKnowing_44 hE hΓ hd v1 v2 v4 (0 : Int32) v3 σ _ h hk
    · simp only [if_neg hc] at h
      refine fhW.blk fhPF fhLL hΓ [(.iconst 1, 1)] (pc' := 40) (lv' := [(0, .ref 76), (1, .int v1), (2, .int v2), (3, .int v3), (4, .int v4)]) (st' := [.int (1 : Int32), .int v3]) (σ' := σ) (by decide +kernel) rfl rfl rfl ?_
      refine fhW.goto hΓ (off := 4) (tgt := 44) (by decide +kernel) ?_
      refine fhW.sub (lv' := [(0, .ref 76), (1, .int v1), (2, .int v2), (4, .int v4)]) [0, 1, 2, 4] rfl ?_
      exact L_X1_countKnowing_44 hE hΓ hd v1 v2 v4 (1 : Int32) v3 σ _ h hk
set_option maxRecDepth 100000 in
set_option maxHeartbeats 4000000 in
theorem L_X1_countKnowing_E {Γ : fhX} (hE : fhEok fhYF (fhEn Γ)) (hΓ : fhOk fhYF 1 cX1_countKnowing 5 (some .int) Γ) (hd : 2 ≤ fhD Γ) (v1 : Int32) (v2 : Int32)  (σ : fhM) (o : Int32) (h : f_X1_countKnowing v1 v2 σ = some o) (hk : (fun o => fhRet Γ (some (.int o)) σ) o) : fhW fhYF Γ 0 [(0, .ref 76), (1, .int v1), (2, .int v2)] [] σ := by
  unfold f_X1_countKnowing at h
  refine fhW.blk fhPF fhLL hΓ [(.iconst 0, 0), (.istore_n 3, 0), (.iconst 0, 0), (.istore 4, 0)] (pc' := 5) (lv' := [(4, .int (0 : Int32)), (3, .int (0 : Int32)), (0, .ref 76), (1, .int v1), (2, .int v2)]) (st' := []) (σ' := σ) (by decide +kernel) rfl rfl rfl ?_
  refine fhW.sub (lv' := [(0, .ref 76), (1, .int v1), (2, .int v2), (3, .int (0 : Int32)), (4, .int (0 : Int32))]) [2, 3, 4, 1, 0] rfl ?_
  exact fhlp_ok (W := (fun x => fhW fhYF Γ 5 [(0, .ref 76), (1, .int v1), (2, .int v2), (3, .int x.1), (4, .int x.2)] [] σ)) (B := (fun o => fhRet Γ (some (.int o)) σ)) (fun x o h hk => L_X1_countKnowing_5 hE hΓ hd v1 v2 x.1 x.2 σ o h hk) ((0 : Int32), (0 : Int32)) _ h hk
set_option maxRecDepth 100000 in
theorem T_X1_countKnowing {E : fhE} {d : Nat} (hE : fhEok fhYF E) (hd : 2 ≤ d) (v1 : Int32) (v2 : Int32)  (σ : fhM) {o : Int32} (h : f_X1_countKnowing v1 v2 σ = some o) : fhC fhYF E d miX1_countKnowing [.ref 76, .int v1, .int v2] σ (some (.int o)) σ := by
  refine fhC.of (y := yX1_countKnowing) (cc := cX1_countKnowing) (nL := 5) (ret := (some .int)) 1 rfl (by decide +kernel) (Nat.le_of_ble_eq_true rfl) ?_
  intro Γ hΓ hR hD hEn
  subst hD; subst hEn
  exact L_X1_countKnowing_E hE hΓ hd v1 v2  σ _ h hR
set_option maxRecDepth 100000 in
set_option maxHeartbeats 4000000 in
theorem L_X11_odds_E {Γ : fhX} (hE : fhEok fhYF (fhEn Γ)) (hΓ : fhOk fhYF 11 cX11_odds 3 (some .int) Γ) (hd : 5 ≤ fhD Γ) (v1 : Int32) (v2 : Int32)  (σ : fhM) (o : Int32 × fhM) (h : f_X11_odds v1 v2 σ = some o) (hk : (fun o => fhRet Γ (some (.int o.1)) o.2) o) : fhW fhYF Γ 0 [(0, .ref 0), (1, .int v1), (2, .int v2)] [] σ := by
  unfold f_X11_odds at h
  refine fhW.blk fhPF fhLL hΓ [(.aload_n 0, 0), (.iload_n 1, 0)] (pc' := 2) (lv' := [(0, .ref 0), (1, .int v1), (2, .int v2)]) (st' := [.int v1, .ref 0]) (σ' := σ) (by decide +kernel) rfl rfl rfl ?_
  refine fhW.callv hΓ mvX11_isGuest ml_11_201 (t := 0) (ci := 11) (av := [.int v1]) (rest := []) (r := (some (.int (fhb (f_X11_isGuest v1 σ))))) (σ' := σ) (T_X11_isGuest (E := fhEn Γ) (d := fhD Γ - 1) hE (by omega) v1 σ) (by omega) (by decide +kernel) rfl rfl rfl (Nat.le_of_ble_eq_true rfl) rfl ?_
  show fhW fhYF Γ 5 [(0, .ref 0), (1, .int v1), (2, .int v2)] [.int (fhb (f_X11_isGuest v1 σ))] σ
  refine fhW.b_eq hΓ (tgt := 18) (show fhbk _ _ (.ifCond .eq (13)) _ = true by decide +kernel) (fun hc => ?_) (fun hc => ?_)
  · rw [if_neg hc] at h
    refine fhW.blk fhPF fhLL hΓ [(.iconst (-1), -1)] (pc' := 19) (lv' := [(0, .ref 0), (1, .int v1), (2, .int v2)]) (st' := [.int (-1 : Int32)]) (σ' := σ) (by decide +kernel) rfl rfl rfl ?_
    have e9 := Option.some.inj h
    subst e9
    exact fhW.iret hΓ (by decide +kernel) hk
  · rw [if_pos hc] at h
    refine fhW.blk fhPF fhLL hΓ [(.iload_n 2, 0)] (pc' := 9) (lv' := [(0, .ref 0), (1, .int v1), (2, .int v2)]) (st' := [.int v2]) (σ' := σ) (by decide +kernel) rfl rfl rfl ?_
    refine fhW.z_lt hΓ (tgt := 18) (show fhbk _ _ (.ifCond .lt (9)) _ = true by decide +kernel) (fun hc => ?_) (fun hc => ?_)
    · rw [if_pos hc] at h
      refine fhW.blk fhPF fhLL hΓ [(.iconst (-1), -1)] (pc' := 19) (lv' := [(0, .ref 0), (1, .int v1), (2, .int v2)]) (st' := [.int (-1 : Int32)]) (σ' := σ) (by decide +kernel) rfl rfl rfl ?_
      have e9 := Option.some.inj h
      subst e9
      exact fhW.iret hΓ (by decide +kernel) hk
    · rw [if_neg hc] at h
      refine fhW.blk fhPF fhLL hΓ [(.iload_n 2, 0), (.bipush 20, 20)] (pc' := 15) (lv' := [(0, .ref 0), (1, .int v1), (2, .int v2)]) (st' := [.int (20 : Int32), .int v2]) (σ' := σ) (by decide +kernel) rfl rfl rfl ?_
      refine fhW.i_le hΓ (tgt := 20) (show fhbk _ _ (.if_icmp .le (5)) _ = true by decide +kernel) (fun hc => ?_) (fun hc => ?_)
      · rw [if_pos hc] at h
        refine fhW.blk fhPF fhLL hΓ [(.aload_n 0, 0), (.getfield 79, 0)] (pc' := 24) (lv' := [(0, .ref 0), (1, .int v1), (2, .int v2)]) (st' := [.ref 76]) (σ' := σ) (by decide +kernel) rfl rfl rfl ?_
        obtain ⟨q1, hb1, h⟩ := Option.bind_eq_some_iff.mp h
        refine fhW.callv hΓ mvX1_prepare ml_11_285 (t := 76) (ci := 1) (av := []) (rest := []) (r := none) (σ' := q1) (T_X1_prepare (E := fhEn Γ) (d := fhD Γ - 1) hE (by omega) σ hb1) (by omega) (by decide +kernel) rfl rfl rfl (Nat.le_of_ble_eq_true rfl) rfl ?_
        show fhW fhYF Γ 27 [(0, .ref 0), (1, .int v1), (2, .int v2)] [] q1
        refine fhW.blk fhPF fhLL hΓ [(.aload_n 0, 0), (.getfield 79, 0), (.iload_n 1, 0), (.iload_n 2, 0)] (pc' := 33) (lv' := [(0, .ref 0), (1, .int v1), (2, .int v2)]) (st' := [.int v2, .int v1, .ref 76]) (σ' := q1) (by decide +kernel) rfl rfl rfl ?_
        obtain ⟨q2, hb2, h⟩ := Option.bind_eq_some_iff.mp h
        refine fhW.callv hΓ mvX1_countKnowing ml_11_293 (t := 76) (ci := 1) (av := [.int v1, .int v2]) (rest := []) (r := (some (.int q2))) (σ' := q1) (T_X1_countKnowing (E := fhEn Γ) (d := fhD Γ - 1) hE (by omega) v1 v2 q1 hb2) (by omega) (by decide +kernel) rfl rfl rfl (Nat.le_of_ble_eq_true rfl) rfl ?_
        show fhW fhYF Γ 36 [(0, .ref 0), (1, .int v1), (2, .int v2)] [.int q2] q1
        have e9 := Option.some.inj h
        subst e9
        exact fhW.iret hΓ (by decide +kernel) hk
      · rw [if_neg hc] at h
        refine fhW.blk fhPF fhLL hΓ [(.iconst (-1), -1)] (pc' := 19) (lv' := [(0, .ref 0), (1, .int v1), (2, .int v2)]) (st' := [.int (-1 : Int32)]) (σ' := σ) (by decide +kernel) rfl rfl rfl ?_
        have e9 := Option.some.inj h
        subst e9
        exact fhW.iret hΓ (by decide +kernel) hk
set_option maxRecDepth 100000 in
theorem T_X11_odds {E : fhE} {d : Nat} (hE : fhEok fhYF E) (hd : 5 ≤ d) (v1 : Int32) (v2 : Int32)  (σ : fhM) {o : Int32 × fhM} (h : f_X11_odds v1 v2 σ = some o) : fhC fhYF E d miX11_odds [.ref 0, .int v1, .int v2] σ (some (.int o.1)) o.2 := by
  refine fhC.of (y := yX11_odds) (cc := cX11_odds) (nL := 3) (ret := (some .int)) 11 rfl (by decide +kernel) (Nat.le_of_ble_eq_true rfl) ?_
  intro Γ hΓ hR hD hEn
  subst hD; subst hEn
  exact L_X11_odds_E hE hΓ hd v1 v2  σ _ h hR
set_option maxRecDepth 100000 in
set_option maxHeartbeats 4000000 in
theorem L_X1_listen_85 {Γ : fhX} (hE : fhEok fhYF (fhEn Γ)) (hΓ : fhOk fhYF 1 cX1_listen 5 (some .boolean) Γ) (hd : 1 ≤ fhD Γ) (v1 : Nat) (v2 : Int32) (v3 : Int32) (v4 : Int32) (hv1 : fhiC v1 = true) (σ : fhM) (o : (Int32 × fhM) ⊕ (Bool × fhM)) (h : f_X1_listen_85 v1 v2 v3 v4 σ = some o) (hk : (fhK (fun x => fhW fhYF Γ 85 [(0, .ref 76), (1, .ref v1), (2, .int v2), (3, .int v3), (4, .int x.1)] [] x.2) (fun o => fhRet Γ (some (.int (fhb o.1))) o.2)) o) : fhW fhYF Γ 85 [(0, .ref 76), (1, .ref v1), (2, .int v2), (3, .int v3), (4, .int v4)] [] σ := by
  unfold f_X1_listen_85 at h
  refine fhW.blk fhPF fhLL hΓ [(.iload 4, 0), (.iload_n 2, 0)] (pc' := 88) (lv' := [(0, .ref 76), (1, .ref v1), (2, .int v2), (3, .int v3), (4, .int v4)]) (st' := [.int v2, .int v4]) (σ' := σ) (by decide +kernel) rfl rfl rfl ?_
  refine fhW.i_ge hΓ (tgt := 112) (show fhbk _ _ (.if_icmp .ge (24)) _ = true by decide +kernel) (fun hc => ?_) (fun hc => ?_)
  · rw [if_pos hc] at h
    refine fhW.blk fhPF fhLL hΓ [(.aload_n 0, 0), (.iload_n 3, 0), (.putfield 49, 0), (.iconst 1, 1)] (pc' := 118) (lv' := [(0, .ref 76), (1, .ref v1), (2, .int v2), (3, .int v3), (4, .int v4)]) (st' := [.int (1 : Int32)]) (σ' := (fhI σ 76 13 v3)) (by decide +kernel) rfl rfl rfl ?_
    have e9 := Option.some.inj h
    subst e9
    exact fhW.zret (v := true) hΓ (by decide +kernel) hk
  · rw [if_neg hc] at h
    refine fhW.blk fhPF fhLL hΓ [(.aload_n 0, 0), (.getfield 35, 0), (.iload 4, 0), (.aload_n 1, 0), (.iload 4, 0)] (pc' := 100) (lv' := [(0, .ref 76), (1, .ref v1), (2, .int v2), (3, .int v3), (4, .int v4)]) (st' := [.int v4, .ref v1, .int v4, .ref 89]) (σ' := σ) (by decide +kernel) rfl rfl rfl ?_
    refine fhW.callv hΓ mvX2_get ml_1_70 (t := v1) (ci := 2) (av := [.int v4]) (rest := [.int v4, .ref 89]) (r := (some (.int (fcG σ v1 v4)))) (σ' := σ) (T_X2_get (E := fhEn Γ) (d := fhD Γ - 1) hE (by omega) v1 v4 hv1 σ) (by omega) (by decide +kernel) rfl (fhiC_g hv1) rfl (Nat.le_of_ble_eq_true rfl) rfl ?_
    show fhW fhYF Γ 103 [(0, .ref 76), (1, .ref v1), (2, .int v2), (3, .int v3), (4, .int v4)] [.int (fcG σ v1 v4), .int v4, .ref 89] σ
    refine fhW.callv hΓ mvX2_put ml_1_74 (t := 89) (ci := 2) (av := [.int v4, .int (fcG σ v1 v4)]) (rest := []) (r := none) (σ' := (fcP σ 89 v4 (fcG σ v1 v4))) (T_X2_put (E := fhEn Γ) (d := fhD Γ - 1) hE (by omega) 89 v4 (fcG σ v1 v4) rfl σ) (by omega) (by decide +kernel) rfl rfl rfl (Nat.le_of_ble_eq_true rfl) rfl ?_
    show fhW fhYF Γ 106 [(0, .ref 76), (1, .ref v1), (2, .int v2), (3, .int v3), (4, .int v4)] [] (fcP σ 89 v4 (fcG σ v1 v4))
    refine fhW.blk fhPF fhLL hΓ [(.iinc 4 1, 1)] (pc' := 109) (lv' := [(4, .int (v4 + (1 : Int32))), (0, .ref 76), (1, .ref v1), (2, .int v2), (3, .int v3)]) (st' := []) (σ' := (fcP σ 89 v4 (fcG σ v1 v4))) (by decide +kernel) rfl rfl rfl ?_
    refine fhW.goto hΓ (off := (-24)) (tgt := 85) (by decide +kernel) ?_
    refine fhW.sub (lv' := [(0, .ref 76), (1, .ref v1), (2, .int v2), (3, .int v3), (4, .int (v4 + (1 : Int32)))]) [1, 2, 3, 4, 0] rfl ?_
    have e9 := Option.some.inj h
    subst e9
    exact hk
set_option maxRecDepth 100000 in
set_option maxHeartbeats 4000000 in
theorem L_X1_listen_27 {Γ : fhX} (hE : fhEok fhYF (fhEn Γ)) (hΓ : fhOk fhYF 1 cX1_listen 5 (some .boolean) Γ) (hd : 1 ≤ fhD Γ) (v1 : Nat) (v2 : Int32) (v3 : Int32) (v4 : Int32) (hv1 : fhiC v1 = true) (σ : fhM) (o : (Int32) ⊕ (Bool × fhM)) (h : f_X1_listen_27 v1 v2 v3 v4 σ = some o) (hk : (fhK (fun x => fhW fhYF Γ 27 [(0, .ref 76), (1, .ref v1), (2, .int v2), (3, .int v3), (4, .int x)] [] σ) (fun o => fhRet Γ (some (.int (fhb o.1))) o.2)) o) : fhW fhYF Γ 27 [(0, .ref 76), (1, .ref v1), (2, .int v2), (3, .int v3), (4, .int v4)] [] σ := by
  unfold f_X1_listen_27 at h
  refine fhW.blk fhPF fhLL hΓ [(.iload 4, 0), (.iload_n 2, 0)] (pc' := 30) (lv' := [(0, .ref 76), (1, .ref v1), (2, .int v2), (3, .int v3), (4, .int v4)]) (st' := [.int v2, .int v4]) (σ' := σ) (by decide +kernel) rfl rfl rfl ?_
  refine fhW.i_ge hΓ (tgt := 82) (show fhbk _ _ (.if_icmp .ge (52)) _ = true by decide +kernel) (fun hc => ?_) (fun hc => ?_)
  · rw [if_pos hc] at h
    refine fhW.blk fhPF fhLL hΓ [(.iconst 0, 0), (.istore 4, 0)] (pc' := 85) (lv' := [(4, .int (0 : Int32)), (0, .ref 76), (1, .ref v1), (2, .int v2), (3, .int v3)]) (st' := []) (σ' := σ) (by decide +kernel) rfl rfl rfl ?_
    refine fhW.sub (lv' := [(0, .ref 76), (1, .ref v1), (2, .int v2), (3, .int v3), (4, .int (0 : Int32))]) [1, 2, 3, 4, 0] rfl ?_
    obtain ⟨z1, hz, e1⟩ := Option.map_eq_some_iff.mp h
    clear h
    subst e1
    have h := hz
    have hk : (fun o => fhRet Γ (some (.int (fhb o.1))) o.2) z1 := hk
    exact fhlp_ok (W := (fun x => fhW fhYF Γ 85 [(0, .ref 76), (1, .ref v1), (2, .int v2), (3, .int v3), (4, .int x.1)] [] x.2)) (B := (fun o => fhRet Γ (some (.int (fhb o.1))) o.2)) (fun x o h hk => L_X1_listen_85 hE hΓ hd v1 v2 v3 x.1 hv1 x.2 o h hk) ((0 : Int32), σ) _ h hk
  · rw [if_neg hc] at h
    refine fhW.blk fhPF fhLL hΓ [(.aload_n 1, 0), (.iload 4, 0)] (pc' := 36) (lv' := [(0, .ref 76), (1, .ref v1), (2, .int v2), (3, .int v3), (4, .int v4)]) (st' := [.int v4, .ref v1]) (σ' := σ) (by decide +kernel) rfl rfl rfl ?_
    refine fhW.callv hΓ mvX2_get ml_1_70 (t := v1) (ci := 2) (av := [.int v4]) (rest := []) (r := (some (.int (fcG σ v1 v4)))) (σ' := σ) (T_X2_get (E := fhEn Γ) (d := fhD Γ - 1) hE (by omega) v1 v4 hv1 σ) (by omega) (by decide +kernel) rfl (fhiC_g hv1) rfl (Nat.le_of_ble_eq_true rfl) rfl ?_
    show fhW fhYF Γ 39 [(0, .ref 76), (1, .ref v1), (2, .int v2), (3, .int v3), (4, .int v4)] [.int (fcG σ v1 v4)] σ
    refine fhW.blk fhPF fhLL hΓ [(.bipush 16, 16)] (pc' := 41) (lv' := [(0, .ref 76), (1, .ref v1), (2, .int v2), (3, .int v3), (4, .int v4)]) (st' := [.int (16 : Int32), .int (fcG σ v1 v4)]) (σ' := σ) (by decide +kernel) rfl rfl rfl ?_
    refine fhW.i_ge hΓ (tgt := 74) (show fhbk _ _ (.if_icmp .ge (33)) _ = true by decide +kernel) (fun hc => ?_) (fun hc => ?_)
    · rw [if_pos hc] at h
      refine fhW.blk fhPF fhLL hΓ [(.iconst 0, 0)] (pc' := 75) (lv' := [(0, .ref 76), (1, .ref v1), (2, .int v2), (3, .int v3), (4, .int v4)]) (st' := [.int (0 : Int32)]) (σ' := σ) (by decide +kernel) rfl rfl rfl ?_
      have e9 := Option.some.inj h
      subst e9
      exact fhW.zret (v := false) hΓ (by decide +kernel) hk
    · rw [if_neg hc] at h
      refine fhW.blk fhPF fhLL hΓ [(.aload_n 1, 0), (.iload 4, 0), (.iconst 1, 1), (.iadd, 0)] (pc' := 49) (lv' := [(0, .ref 76), (1, .ref v1), (2, .int v2), (3, .int v3), (4, .int v4)]) (st' := [.int (v4 + (1 : Int32)), .ref v1]) (σ' := σ) (by decide +kernel) rfl rfl rfl ?_
      refine fhW.callv hΓ mvX2_get ml_1_70 (t := v1) (ci := 2) (av := [.int (v4 + (1 : Int32))]) (rest := []) (r := (some (.int (fcG σ v1 (v4 + (1 : Int32)))))) (σ' := σ) (T_X2_get (E := fhEn Γ) (d := fhD Γ - 1) hE (by omega) v1 (v4 + (1 : Int32)) hv1 σ) (by omega) (by decide +kernel) rfl (fhiC_g hv1) rfl (Nat.le_of_ble_eq_true rfl) rfl ?_
      show fhW fhYF Γ 52 [(0, .ref 76), (1, .ref v1), (2, .int v2), (3, .int v3), (4, .int v4)] [.int (fcG σ v1 (v4 + (1 : Int32)))] σ
      refine fhW.blk fhPF fhLL hΓ [(.aload_n 0, 0), (.getfield 41, 0), (.getfield 92, 0)] (pc' := 59) (lv' := [(0, .ref 76), (1, .ref v1), (2, .int v2), (3, .int v3), (4, .int v4)]) (st' := [.int (σ.1 39 9), .int (fcG σ v1 (v4 + (1 : Int32)))]) (σ' := σ) (by decide +kernel) rfl rfl rfl ?_
      refine fhW.i_ge hΓ (tgt := 74) (show fhbk _ _ (.if_icmp .ge (15)) _ = true by decide +kernel) (fun hc => ?_) (fun hc => ?_)
      · rw [if_pos hc] at h
        refine fhW.blk fhPF fhLL hΓ [(.iconst 0, 0)] (pc' := 75) (lv' := [(0, .ref 76), (1, .ref v1), (2, .int v2), (3, .int v3), (4, .int v4)]) (st' := [.int (0 : Int32)]) (σ' := σ) (by decide +kernel) rfl rfl rfl ?_
        have e9 := Option.some.inj h
        subst e9
        exact fhW.zret (v := false) hΓ (by decide +kernel) hk
      · rw [if_neg hc] at h
        refine fhW.blk fhPF fhLL hΓ [(.aload_n 1, 0), (.iload 4, 0), (.iconst 2, 2), (.iadd, 0)] (pc' := 67) (lv' := [(0, .ref 76), (1, .ref v1), (2, .int v2), (3, .int v3), (4, .int v4)]) (st' := [.int (v4 + (2 : Int32)), .ref v1]) (σ' := σ) (by decide +kernel) rfl rfl rfl ?_
        refine fhW.callv hΓ mvX2_get ml_1_70 (t := v1) (ci := 2) (av := [.int (v4 + (2 : Int32))]) (rest := []) (r := (some (.int (fcG σ v1 (v4 + (2 : Int32)))))) (σ' := σ) (T_X2_get (E := fhEn Γ) (d := fhD Γ - 1) hE (by omega) v1 (v4 + (2 : Int32)) hv1 σ) (by omega) (by decide +kernel) rfl (fhiC_g hv1) rfl (Nat.le_of_ble_eq_true rfl) rfl ?_
        show fhW fhYF Γ 70 [(0, .ref 76), (1, .ref v1), (2, .int v2), (3, .int v3), (4, .int v4)] [.int (fcG σ v1 (v4 + (2 : Int32)))] σ
        refine fhW.blk fhPF fhLL hΓ [(.iconst 1, 1)] (pc' := 71) (lv' := [(0, .ref 76), (1, .ref v1), (2, .int v2), (3, .int v3), (4, .int v4)]) (st' := [.int (1 : Int32), .int (fcG σ v1 (v4 + (2 : Int32)))]) (σ' := σ) (by decide +kernel) rfl rfl rfl ?_
        refine fhW.i_le hΓ (tgt := 76) (show fhbk _ _ (.if_icmp .le (5)) _ = true by decide +kernel) (fun hc => ?_) (fun hc => ?_)
        · rw [if_pos hc] at h
          refine fhW.blk fhPF fhLL hΓ [(.iinc 4 3, 3)] (pc' := 79) (lv' := [(4, .int (v4 + (3 : Int32))), (0, .ref 76), (1, .ref v1), (2, .int v2), (3, .int v3)]) (st' := []) (σ' := σ) (by decide +kernel) rfl rfl rfl ?_
          refine fhW.goto hΓ (off := (-52)) (tgt := 27) (by decide +kernel) ?_
          refine fhW.sub (lv' := [(0, .ref 76), (1, .ref v1), (2, .int v2), (3, .int v3), (4, .int (v4 + (3 : Int32)))]) [1, 2, 3, 4, 0] rfl ?_
          have e9 := Option.some.inj h
          subst e9
          exact hk
        · rw [if_neg hc] at h
          refine fhW.blk fhPF fhLL hΓ [(.iconst 0, 0)] (pc' := 75) (lv' := [(0, .ref 76), (1, .ref v1), (2, .int v2), (3, .int v3), (4, .int v4)]) (st' := [.int (0 : Int32)]) (σ' := σ) (by decide +kernel) rfl rfl rfl ?_
          have e9 := Option.some.inj h
          subst e9
          exact fhW.zret (v := false) hΓ (by decide +kernel) hk
set_option maxRecDepth 100000 in
set_option maxHeartbeats 4000000 in
theorem L_X1_listen_E {Γ : fhX} (hE : fhEok fhYF (fhEn Γ)) (hΓ : fhOk fhYF 1 cX1_listen 5 (some .boolean) Γ) (hd : 1 ≤ fhD Γ) (v1 : Nat) (v2 : Int32) (hv1 : fhiC v1 = true) (σ : fhM) (o : Bool × fhM) (h : f_X1_listen v1 v2 σ = some o) (hk : (fun o => fhRet Γ (some (.int (fhb o.1))) o.2) o) : fhW fhYF Γ 0 [(0, .ref 76), (1, .ref v1), (2, .int v2)] [] σ := by
  unfold f_X1_listen at h
  refine fhW.blk fhPF fhLL hΓ [(.iload_n 2, 0), (.iconst 3, 3), (.idiv, 0), (.istore_n 3, 0), (.iload_n 3, 0), (.iconst 3, 3), (.imul, 0), (.iload_n 2, 0)] (pc' := 8) (lv' := [(3, .int (v2 / (3 : Int32))), (0, .ref 76), (1, .ref v1), (2, .int v2)]) (st' := [.int v2, .int ((v2 / (3 : Int32)) * (3 : Int32))]) (σ' := σ) (by decide +kernel) rfl rfl rfl ?_
  refine fhW.i_ne hΓ (tgt := 22) (show fhbk _ _ (.if_icmp .ne (14)) _ = true by decide +kernel) (fun hc => ?_) (fun hc => ?_)
  · rw [if_neg hc] at h
    refine fhW.blk fhPF fhLL hΓ [(.iconst 0, 0)] (pc' := 23) (lv' := [(3, .int (v2 / (3 : Int32))), (0, .ref 76), (1, .ref v1), (2, .int v2)]) (st' := [.int (0 : Int32)]) (σ' := σ) (by decide +kernel) rfl rfl rfl ?_
    have e9 := Option.some.inj h
    subst e9
    exact fhW.zret (v := false) hΓ (by decide +kernel) hk
  · rw [if_pos hc] at h
    refine fhW.blk fhPF fhLL hΓ [(.iload_n 3, 0), (.iconst 1, 1)] (pc' := 13) (lv' := [(3, .int (v2 / (3 : Int32))), (0, .ref 76), (1, .ref v1), (2, .int v2)]) (st' := [.int (1 : Int32), .int (v2 / (3 : Int32))]) (σ' := σ) (by decide +kernel) rfl rfl rfl ?_
    refine fhW.i_lt hΓ (tgt := 22) (show fhbk _ _ (.if_icmp .lt (9)) _ = true by decide +kernel) (fun hc => ?_) (fun hc => ?_)
    · rw [if_pos hc] at h
      refine fhW.blk fhPF fhLL hΓ [(.iconst 0, 0)] (pc' := 23) (lv' := [(3, .int (v2 / (3 : Int32))), (0, .ref 76), (1, .ref v1), (2, .int v2)]) (st' := [.int (0 : Int32)]) (σ' := σ) (by decide +kernel) rfl rfl rfl ?_
      have e9 := Option.some.inj h
      subst e9
      exact fhW.zret (v := false) hΓ (by decide +kernel) hk
    · rw [if_neg hc] at h
      refine fhW.blk fhPF fhLL hΓ [(.iload_n 3, 0), (.bipush 16, 16)] (pc' := 19) (lv' := [(3, .int (v2 / (3 : Int32))), (0, .ref 76), (1, .ref v1), (2, .int v2)]) (st' := [.int (16 : Int32), .int (v2 / (3 : Int32))]) (σ' := σ) (by decide +kernel) rfl rfl rfl ?_
      refine fhW.i_le hΓ (tgt := 24) (show fhbk _ _ (.if_icmp .le (5)) _ = true by decide +kernel) (fun hc => ?_) (fun hc => ?_)
      · rw [if_pos hc] at h
        refine fhW.blk fhPF fhLL hΓ [(.iconst 0, 0), (.istore 4, 0)] (pc' := 27) (lv' := [(4, .int (0 : Int32)), (3, .int (v2 / (3 : Int32))), (0, .ref 76), (1, .ref v1), (2, .int v2)]) (st' := []) (σ' := σ) (by decide +kernel) rfl rfl rfl ?_
        refine fhW.sub (lv' := [(0, .ref 76), (1, .ref v1), (2, .int v2), (3, .int (v2 / (3 : Int32))), (4, .int (0 : Int32))]) [2, 3, 4, 1, 0] rfl ?_
        exact fhlp_ok (W := (fun x => fhW fhYF Γ 27 [(0, .ref 76), (1, .ref v1), (2, .int v2), (3, .int (v2 / (3 : Int32))), (4, .int x)] [] σ)) (B := (fun o => fhRet Γ (some (.int (fhb o.1))) o.2)) (fun x o h hk => L_X1_listen_27 hE hΓ hd v1 v2 (v2 / (3 : Int32)) x hv1 σ o h hk) (0 : Int32) _ h hk
      · rw [if_neg hc] at h
        refine fhW.blk fhPF fhLL hΓ [(.iconst 0, 0)] (pc' := 23) (lv' := [(3, .int (v2 / (3 : Int32))), (0, .ref 76), (1, .ref v1), (2, .int v2)]) (st' := [.int (0 : Int32)]) (σ' := σ) (by decide +kernel) rfl rfl rfl ?_
        have e9 := Option.some.inj h
        subst e9
        exact fhW.zret (v := false) hΓ (by decide +kernel) hk
set_option maxRecDepth 100000 in
theorem T_X1_listen {E : fhE} {d : Nat} (hE : fhEok fhYF E) (hd : 1 ≤ d) (v1 : Nat) (v2 : Int32) (hv1 : fhiC v1 = true) (σ : fhM) {o : Bool × fhM} (h : f_X1_listen v1 v2 σ = some o) : fhC fhYF E d miX1_listen [.ref 76, .ref v1, .int v2] σ (some (.int (fhb o.1))) o.2 := by
  refine fhC.of (y := yX1_listen) (cc := cX1_listen) (nL := 5) (ret := (some .boolean)) 1 rfl (by decide +kernel) (Nat.le_of_ble_eq_true rfl) ?_
  intro Γ hΓ hR hD hEn
  subst hD; subst hEn
  exact L_X1_listen_E hE hΓ hd v1 v2 hv1 σ _ h hR
set_option maxRecDepth 100000 in
set_option maxHeartbeats 4000000 in
theorem L_X11_hear_E {Γ : fhX} (hE : fhEok fhYF (fhEn Γ)) (hΓ : fhOk fhYF 11 cX11_hear 2 (some .int) Γ) (hd : 2 ≤ fhD Γ)   (σ : fhM) (o : Int32 × fhM) (h : f_X11_hear σ = some o) (hk : (fun o => fhRet Γ (some (.int o.1)) o.2) o) : fhW fhYF Γ 0 [(0, .ref 0)] [] σ := by
  unfold f_X11_hear at h
  refine fhW.blk fhPF fhLL hΓ [(.aload_n 0, 0)] (pc' := 1) (lv' := [(0, .ref 0)]) (st' := [.ref 0]) (σ' := σ) (by decide +kernel) rfl rfl rfl ?_
  refine fhW.callv hΓ mvX11_takeTape ml_11_120 (t := 0) (ci := 11) (av := []) (rest := []) (r := (some (.int (f_X11_takeTape σ).1))) (σ' := (f_X11_takeTape σ).2) (T_X11_takeTape (E := fhEn Γ) (d := fhD Γ - 1) hE (by omega) σ) (by omega) (by decide +kernel) rfl rfl rfl (Nat.le_of_ble_eq_true rfl) rfl ?_
  show fhW fhYF Γ 4 [(0, .ref 0)] [.int (f_X11_takeTape σ).1] (f_X11_takeTape σ).2
  obtain ⟨q1, e1, h⟩ := fhlet_elim h
  rw [← e1]
  refine fhW.blk fhPF fhLL hΓ [(.istore_n 1, 0), (.aload_n 0, 0), (.getfield 79, 0), (.aload_n 0, 0), (.getfield 14, 0), (.iload_n 1, 0)] (pc' := 14) (lv' := [(1, .int q1.1), (0, .ref 0)]) (st' := [.int q1.1, .ref 1, .ref 76]) (σ' := q1.2) (by decide +kernel) rfl rfl rfl ?_
  obtain ⟨q2, hb1, h⟩ := Option.bind_eq_some_iff.mp h
  refine fhW.callv hΓ mvX1_listen ml_11_296 (t := 76) (ci := 1) (av := [.ref 1, .int q1.1]) (rest := []) (r := (some (.int (fhb q2.1)))) (σ' := q2.2) (T_X1_listen (E := fhEn Γ) (d := fhD Γ - 1) hE (by omega) 1 q1.1 rfl q1.2 hb1) (by omega) (by decide +kernel) rfl rfl rfl (Nat.le_of_ble_eq_true rfl) rfl ?_
  show fhW fhYF Γ 17 [(1, .int q1.1), (0, .ref 0)] [.int (fhb q2.1)] q2.2
  refine fhW.b_ne hΓ (tgt := 26) (show fhbk _ _ (.ifCond .ne (9)) _ = true by decide +kernel) (fun hc => ?_) (fun hc => ?_)
  · rw [if_pos hc] at h
    refine fhW.blk fhPF fhLL hΓ [(.aload_n 0, 0), (.getfield 79, 0), (.getfield 195, 0)] (pc' := 33) (lv' := [(1, .int q1.1), (0, .ref 0)]) (st' := [.int (q2.2.1 76 13)]) (σ' := q2.2) (by decide +kernel) rfl rfl rfl ?_
    have e9 := Option.some.inj h
    subst e9
    exact fhW.iret hΓ (by decide +kernel) hk
  · rw [if_neg hc] at h
    refine fhW.blk fhPF fhLL hΓ [(.aload_n 0, 0), (.iconst 1, 1)] (pc' := 22) (lv' := [(1, .int q1.1), (0, .ref 0)]) (st' := [.int (1 : Int32), .ref 0]) (σ' := q2.2) (by decide +kernel) rfl rfl rfl ?_
    refine fhW.callv hΓ mvX11_refuse ml_11_106 (t := 0) (ci := 11) (av := [.int (1 : Int32)]) (rest := []) (r := (some (.int (f_X11_refuse (1 : Int32) q2.2).1))) (σ' := (f_X11_refuse (1 : Int32) q2.2).2) (T_X11_refuse (E := fhEn Γ) (d := fhD Γ - 1) hE (by omega) (1 : Int32) q2.2) (by omega) (by decide +kernel) rfl rfl rfl (Nat.le_of_ble_eq_true rfl) rfl ?_
    show fhW fhYF Γ 25 [(1, .int q1.1), (0, .ref 0)] [.int (f_X11_refuse (1 : Int32) q2.2).1] (f_X11_refuse (1 : Int32) q2.2).2
    obtain ⟨q3, e2, h⟩ := fhlet_elim h
    rw [← e2]
    have e9 := Option.some.inj h
    subst e9
    exact fhW.iret hΓ (by decide +kernel) hk
set_option maxRecDepth 100000 in
theorem T_X11_hear {E : fhE} {d : Nat} (hE : fhEok fhYF E) (hd : 2 ≤ d)   (σ : fhM) {o : Int32 × fhM} (h : f_X11_hear σ = some o) : fhC fhYF E d miX11_hear [.ref 0] σ (some (.int o.1)) o.2 := by
  refine fhC.of (y := yX11_hear) (cc := cX11_hear) (nL := 2) (ret := (some .int)) 11 rfl (by decide +kernel) (Nat.le_of_ble_eq_true rfl) ?_
  intro Γ hΓ hR hD hEn
  subst hD; subst hEn
  exact L_X11_hear_E hE hΓ hd   σ _ h hR
set_option maxRecDepth 100000 in
set_option maxHeartbeats 4000000 in
theorem L_X1_isFitting_64 {Γ : fhX} (hE : fhEok fhYF (fhEn Γ)) (hΓ : fhOk fhYF 1 cX1_isFitting 4 (some .boolean) Γ) (hd : 2 ≤ fhD Γ) (v1 : Int32) (v2 : Int32) (s0 : Int32) (s1 : Int32)  (σ : fhM) (o : (Int32) ⊕ (Bool)) (h : f_X1_isFitting_64 v1 v2 s0 s1 σ = some o) (hk : (fhK (fun x => fhW fhYF Γ 2 [(0, .ref 76), (1, .int v1), (2, .int x)] [] σ) (fun o => fhRet Γ (some (.int (fhb o))) σ)) o) : fhW fhYF Γ 64 [(0, .ref 76), (1, .int v1), (2, .int v2)] [.int s0, .int s1] σ := by
  unfold f_X1_isFitting_64 at h
  refine fhW.i_eq hΓ (tgt := 69) (show fhbk _ _ (.if_icmp .eq (5)) _ = true by decide +kernel) (fun hc => ?_) (fun hc => ?_)
  · rw [if_pos hc] at h
    refine fhW.blk fhPF fhLL hΓ [(.iinc 2 3, 3)] (pc' := 72) (lv' := [(2, .int (v2 + (3 : Int32))), (0, .ref 76), (1, .int v1)]) (st' := []) (σ' := σ) (by decide +kernel) rfl rfl rfl ?_
    refine fhW.goto hΓ (off := (-70)) (tgt := 2) (by decide +kernel) ?_
    refine fhW.sub (lv' := [(0, .ref 76), (1, .int v1), (2, .int (v2 + (3 : Int32)))]) [1, 2, 0] rfl ?_
    have e9 := Option.some.inj h
    subst e9
    exact hk
  · rw [if_neg hc] at h
    refine fhW.blk fhPF fhLL hΓ [(.iconst 0, 0)] (pc' := 68) (lv' := [(0, .ref 76), (1, .int v1), (2, .int v2)]) (st' := [.int (0 : Int32)]) (σ' := σ) (by decide +kernel) rfl rfl rfl ?_
    have e9 := Option.some.inj h
    subst e9
    exact fhW.zret (v := false) hΓ (by decide +kernel) hk
set_option maxRecDepth 100000 in
set_option maxHeartbeats 4000000 in
theorem L_X1_isFitting_43 {Γ : fhX} (hE : fhEok fhYF (fhEn Γ)) (hΓ : fhOk fhYF 1 cX1_isFitting 4 (some .boolean) Γ) (hd : 2 ≤ fhD Γ) (v1 : Int32) (v2 : Int32) (s0 : Int32)  (σ : fhM) (o : (Int32) ⊕ (Bool)) (h : f_X1_isFitting_43 v1 v2 s0 σ = some o) (hk : (fhK (fun x => fhW fhYF Γ 2 [(0, .ref 76), (1, .int v1), (2, .int x)] [] σ) (fun o => fhRet Γ (some (.int (fhb o))) σ)) o) : fhW fhYF Γ 43 [(0, .ref 76), (1, .int v1), (2, .int v2)] [.int s0] σ := by
  unfold f_X1_isFitting_43 at h
  refine fhW.blk fhPF fhLL hΓ [(.istore_n 3, 0), (.iload_n 3, 0), (.aload_n 0, 0), (.getfield 35, 0), (.iload_n 2, 0), (.iconst 2, 2), (.iadd, 0)] (pc' := 52) (lv' := [(3, .int s0), (0, .ref 76), (1, .int v1), (2, .int v2)]) (st' := [.int (v2 + (2 : Int32)), .ref 89, .int s0]) (σ' := σ) (by decide +kernel) rfl rfl rfl ?_
  refine fhW.callv hΓ mvX2_get ml_1_70 (t := 89) (ci := 2) (av := [.int (v2 + (2 : Int32))]) (rest := [.int s0]) (r := (some (.int (fcG σ 89 (v2 + (2 : Int32)))))) (σ' := σ) (T_X2_get (E := fhEn Γ) (d := fhD Γ - 1) hE (by omega) 89 (v2 + (2 : Int32)) rfl σ) (by omega) (by decide +kernel) rfl rfl rfl (Nat.le_of_ble_eq_true rfl) rfl ?_
  show fhW fhYF Γ 55 [(3, .int s0), (0, .ref 76), (1, .int v1), (2, .int v2)] [.int (fcG σ 89 (v2 + (2 : Int32))), .int s0] σ
  refine fhW.blk fhPF fhLL hΓ [(.iconst 1, 1)] (pc' := 56) (lv' := [(3, .int s0), (0, .ref 76), (1, .int v1), (2, .int v2)]) (st' := [.int (1 : Int32), .int (fcG σ 89 (v2 + (2 : Int32))), .int s0]) (σ' := σ) (by decide +kernel) rfl rfl rfl ?_
  refine fhW.i_ne hΓ (tgt := 63) (show fhbk _ _ (.if_icmp .ne (7)) _ = true by decide +kernel) (fun hc => ?_) (fun hc => ?_)
  · simp only [if_neg hc] at h
    refine fhW.blk fhPF fhLL hΓ [(.iconst 0, 0)] (pc' := 64) (lv' := [(3, .int s0), (0, .ref 76), (1, .int v1), (2, .int v2)]) (st' := [.int (0 : Int32), .int s0]) (σ' := σ) (by decide +kernel) rfl rfl rfl ?_
    refine fhW.sub (lv' := [(0, .ref 76), (1, .int v1), (2, .int v2)]) [1, 2, 3] rfl ?_
    exact L_X1_isFitting_64 hE hΓ hd v1 v2 (0 : Int32) s0 σ _ h hk
  · simp only [if_pos hc] at h
    refine fhW.blk fhPF fhLL hΓ [(.iconst 1, 1)] (pc' := 60) (lv' := [(3, .int s0), (0, .ref 76), (1, .int v1), (2, .int v2)]) (st' := [.int (1 : Int32), .int s0]) (σ' := σ) (by decide +kernel) rfl rfl rfl ?_
    refine fhW.goto hΓ (off := 4) (tgt := 64) (by decide +kernel) ?_
    refine fhW.sub (lv' := [(0, .ref 76), (1, .int v1), (2, .int v2)]) [1, 2, 3] rfl ?_
    exact L_X1_isFitting_64 hE hΓ hd v1 v2 (1 : Int32) s0 σ _ h hk
set_option maxRecDepth 100000 in
set_option maxHeartbeats 4000000 in
theorem L_X1_isFitting_2 {Γ : fhX} (hE : fhEok fhYF (fhEn Γ)) (hΓ : fhOk fhYF 1 cX1_isFitting 4 (some .boolean) Γ) (hd : 2 ≤ fhD Γ) (v1 : Int32) (v2 : Int32)  (σ : fhM) (o : (Int32) ⊕ (Bool)) (h : f_X1_isFitting_2 v1 v2 σ = some o) (hk : (fhK (fun x => fhW fhYF Γ 2 [(0, .ref 76), (1, .int v1), (2, .int x)] [] σ) (fun o => fhRet Γ (some (.int (fhb o))) σ)) o) : fhW fhYF Γ 2 [(0, .ref 76), (1, .int v1), (2, .int v2)] [] σ := by
  unfold f_X1_isFitting_2 at h
  refine fhW.blk fhPF fhLL hΓ [(.iload_n 2, 0), (.iconst 3, 3), (.aload_n 0, 0), (.getfield 49, 0), (.imul, 0)] (pc' := 9) (lv' := [(0, .ref 76), (1, .int v1), (2, .int v2)]) (st' := [.int ((3 : Int32) * (σ.1 76 13)), .int v2]) (σ' := σ) (by decide +kernel) rfl rfl rfl ?_
  refine fhW.i_ge hΓ (tgt := 75) (show fhbk _ _ (.if_icmp .ge (66)) _ = true by decide +kernel) (fun hc => ?_) (fun hc => ?_)
  · rw [if_pos hc] at h
    refine fhW.blk fhPF fhLL hΓ [(.iconst 1, 1)] (pc' := 76) (lv' := [(0, .ref 76), (1, .int v1), (2, .int v2)]) (st' := [.int (1 : Int32)]) (σ' := σ) (by decide +kernel) rfl rfl rfl ?_
    have e9 := Option.some.inj h
    subst e9
    exact fhW.zret (v := true) hΓ (by decide +kernel) hk
  · rw [if_neg hc] at h
    refine fhW.blk fhPF fhLL hΓ [(.aload_n 0, 0), (.iload_n 1, 0), (.aload_n 0, 0), (.getfield 35, 0), (.iload_n 2, 0), (.iconst 1, 1), (.iadd, 0)] (pc' := 21) (lv' := [(0, .ref 76), (1, .int v1), (2, .int v2)]) (st' := [.int (v2 + (1 : Int32)), .ref 89, .int v1, .ref 76]) (σ' := σ) (by decide +kernel) rfl rfl rfl ?_
    refine fhW.callv hΓ mvX2_get ml_1_70 (t := 89) (ci := 2) (av := [.int (v2 + (1 : Int32))]) (rest := [.int v1, .ref 76]) (r := (some (.int (fcG σ 89 (v2 + (1 : Int32)))))) (σ' := σ) (T_X2_get (E := fhEn Γ) (d := fhD Γ - 1) hE (by omega) 89 (v2 + (1 : Int32)) rfl σ) (by omega) (by decide +kernel) rfl rfl rfl (Nat.le_of_ble_eq_true rfl) rfl ?_
    show fhW fhYF Γ 24 [(0, .ref 76), (1, .int v1), (2, .int v2)] [.int (fcG σ 89 (v2 + (1 : Int32))), .int v1, .ref 76] σ
    refine fhW.callv hΓ mvX1_firstKnown ml_1_101 (t := 76) (ci := 1) (av := [.int v1, .int (fcG σ 89 (v2 + (1 : Int32)))]) (rest := []) (r := (some (.int (f_X1_firstKnown v1 (fcG σ 89 (v2 + (1 : Int32))) σ)))) (σ' := σ) (T_X1_firstKnown (E := fhEn Γ) (d := fhD Γ - 1) hE (by omega) v1 (fcG σ 89 (v2 + (1 : Int32))) σ) (by omega) (by decide +kernel) rfl rfl rfl (Nat.le_of_ble_eq_true rfl) rfl ?_
    show fhW fhYF Γ 27 [(0, .ref 76), (1, .int v1), (2, .int v2)] [.int (f_X1_firstKnown v1 (fcG σ 89 (v2 + (1 : Int32))) σ)] σ
    refine fhW.blk fhPF fhLL hΓ [(.aload_n 0, 0), (.getfield 35, 0), (.iload_n 2, 0)] (pc' := 32) (lv' := [(0, .ref 76), (1, .int v1), (2, .int v2)]) (st' := [.int v2, .ref 89, .int (f_X1_firstKnown v1 (fcG σ 89 (v2 + (1 : Int32))) σ)]) (σ' := σ) (by decide +kernel) rfl rfl rfl ?_
    refine fhW.callv hΓ mvX2_get ml_1_70 (t := 89) (ci := 2) (av := [.int v2]) (rest := [.int (f_X1_firstKnown v1 (fcG σ 89 (v2 + (1 : Int32))) σ)]) (r := (some (.int (fcG σ 89 v2)))) (σ' := σ) (T_X2_get (E := fhEn Γ) (d := fhD Γ - 1) hE (by omega) 89 v2 rfl σ) (by omega) (by decide +kernel) rfl rfl rfl (Nat.le_of_ble_eq_true rfl) rfl ?_
    show fhW fhYF Γ 35 [(0, .ref 76), (1, .int v1), (2, .int v2)] [.int (fcG σ 89 v2), .int (f_X1_firstKnown v1 (fcG σ 89 (v2 + (1 : Int32))) σ)] σ
    refine fhW.i_gt hΓ (tgt := 42) (show fhbk _ _ (.if_icmp .gt (7)) _ = true by decide +kernel) (fun hc => ?_) (fun hc => ?_)
    · simp only [if_pos hc] at h
      refine fhW.blk fhPF fhLL hΓ [(.iconst 0, 0)] (pc' := 43) (lv' := [(0, .ref 76), (1, .int v1), (2, .int v2)]) (st' := [.int (0 : Int32)]) (σ' := σ) (by decide +kernel) rfl rfl rfl ?_
      refine fhW.sub (lv' := [(0, .ref 76), (1, .int v1), (2, .int v2)]) [0, 1, 2] rfl ?_
      exact L_X1_isFitting_43 hE hΓ hd v1 v2 (0 : Int32) σ _ h hk
    · simp only [if_neg hc] at h
      refine fhW.blk fhPF fhLL hΓ [(.iconst 1, 1)] (pc' := 39) (lv' := [(0, .ref 76), (1, .int v1), (2, .int v2)]) (st' := [.int (1 : Int32)]) (σ' := σ) (by decide +kernel) rfl rfl rfl ?_
      refine fhW.goto hΓ (off := 4) (tgt := 43) (by decide +kernel) ?_
      refine fhW.sub (lv' := [(0, .ref 76), (1, .int v1), (2, .int v2)]) [0, 1, 2] rfl ?_
      exact L_X1_isFitting_43 hE hΓ hd v1 v2 (1 : Int32) σ _ h hk
set_option maxRecDepth 100000 in
set_option maxHeartbeats 4000000 in
theorem L_X1_isFitting_E {Γ : fhX} (hE : fhEok fhYF (fhEn Γ)) (hΓ : fhOk fhYF 1 cX1_isFitting 4 (some .boolean) Γ) (hd : 2 ≤ fhD Γ) (v1 : Int32)  (σ : fhM) (o : Bool) (h : f_X1_isFitting v1 σ = some o) (hk : (fun o => fhRet Γ (some (.int (fhb o))) σ) o) : fhW fhYF Γ 0 [(0, .ref 76), (1, .int v1)] [] σ := by
  unfold f_X1_isFitting at h
  refine fhW.blk fhPF fhLL hΓ [(.iconst 0, 0), (.istore_n 2, 0)] (pc' := 2) (lv' := [(2, .int (0 : Int32)), (0, .ref 76), (1, .int v1)]) (st' := []) (σ' := σ) (by decide +kernel) rfl rfl rfl ?_
  refine fhW.sub (lv' := [(0, .ref 76), (1, .int v1), (2, .int (0 : Int32))]) [1, 2, 0] rfl ?_
  exact fhlp_ok (W := (fun x => fhW fhYF Γ 2 [(0, .ref 76), (1, .int v1), (2, .int x)] [] σ)) (B := (fun o => fhRet Γ (some (.int (fhb o))) σ)) (fun x o h hk => L_X1_isFitting_2 hE hΓ hd v1 x σ o h hk) (0 : Int32) _ h hk
set_option maxRecDepth 100000 in
theorem T_X1_isFitting {E : fhE} {d : Nat} (hE : fhEok fhYF E) (hd : 2 ≤ d) (v1 : Int32)  (σ : fhM) {o : Bool} (h : f_X1_isFitting v1 σ = some o) : fhC fhYF E d miX1_isFitting [.ref 76, .int v1] σ (some (.int (fhb o))) σ := by
  refine fhC.of (y := yX1_isFitting) (cc := cX1_isFitting) (nL := 4) (ret := (some .boolean)) 1 rfl (by decide +kernel) (Nat.le_of_ble_eq_true rfl) ?_
  intro Γ hΓ hR hD hEn
  subst hD; subst hEn
  exact L_X1_isFitting_E hE hΓ hd v1  σ _ h hR
set_option maxRecDepth 100000 in
set_option maxHeartbeats 4000000 in
theorem L_X1_findFitting_64 {Γ : fhX} (hE : fhEok fhYF (fhEn Γ)) (hΓ : fhOk fhYF 1 cX1_findFitting 3 none Γ) (hd : 5 ≤ fhD Γ) (v1 : Int32)  (σ : fhM) (o : (Int32 × fhM) ⊕ (fhM)) (h : f_X1_findFitting_64 v1 σ = some o) (hk : (fhK (fun x => fhW fhYF Γ 11 [(0, .ref 76), (1, .int x.1)] [] x.2) (fun o => fhRet Γ none o)) o) : fhW fhYF Γ 64 [(0, .ref 76), (1, .int v1)] [] σ := by
  unfold f_X1_findFitting_64 at h
  refine fhW.blk fhPF fhLL hΓ [(.iinc 1 1, 1)] (pc' := 67) (lv' := [(1, .int (v1 + (1 : Int32))), (0, .ref 76)]) (st' := []) (σ' := σ) (by decide +kernel) rfl rfl rfl ?_
  refine fhW.goto hΓ (off := (-56)) (tgt := 11) (by decide +kernel) ?_
  refine fhW.sub (lv' := [(0, .ref 76), (1, .int (v1 + (1 : Int32)))]) [1, 0] rfl ?_
  have e9 := Option.some.inj h
  subst e9
  exact hk
set_option maxRecDepth 100000 in
set_option maxHeartbeats 4000000 in
theorem L_X1_findFitting_11 {Γ : fhX} (hE : fhEok fhYF (fhEn Γ)) (hΓ : fhOk fhYF 1 cX1_findFitting 3 none Γ) (hd : 5 ≤ fhD Γ) (v1 : Int32)  (σ : fhM) (o : (Int32 × fhM) ⊕ (fhM)) (h : f_X1_findFitting_11 v1 σ = some o) (hk : (fhK (fun x => fhW fhYF Γ 11 [(0, .ref 76), (1, .int x.1)] [] x.2) (fun o => fhRet Γ none o)) o) : fhW fhYF Γ 11 [(0, .ref 76), (1, .int v1)] [] σ := by
  unfold f_X1_findFitting_11 at h
  refine fhW.blk fhPF fhLL hΓ [(.iload_n 1, 0), (.aload_n 0, 0), (.getfield 41, 0), (.getfield 62, 0)] (pc' := 19) (lv' := [(0, .ref 76), (1, .int v1)]) (st' := [.int (σ.1 39 12), .int v1]) (σ' := σ) (by decide +kernel) rfl rfl rfl ?_
  refine fhW.i_ge hΓ (tgt := 70) (show fhbk _ _ (.if_icmp .ge (51)) _ = true by decide +kernel) (fun hc => ?_) (fun hc => ?_)
  · rw [if_pos hc] at h
    have e9 := Option.some.inj h
    subst e9
    exact fhW.vret hΓ (by decide +kernel) hk
  · rw [if_neg hc] at h
    refine fhW.blk fhPF fhLL hΓ [(.aload_n 0, 0), (.getfield 41, 0), (.getfield 67, 0), (.iload_n 1, 0)] (pc' := 30) (lv' := [(0, .ref 76), (1, .int v1)]) (st' := [.int v1, .ref 54]) (σ' := σ) (by decide +kernel) rfl rfl rfl ?_
    refine fhW.callv hΓ mvX2_get ml_1_70 (t := 54) (ci := 2) (av := [.int v1]) (rest := []) (r := (some (.int (fcG σ 54 v1)))) (σ' := σ) (T_X2_get (E := fhEn Γ) (d := fhD Γ - 1) hE (by omega) 54 v1 rfl σ) (by omega) (by decide +kernel) rfl rfl rfl (Nat.le_of_ble_eq_true rfl) rfl ?_
    show fhW fhYF Γ 33 [(0, .ref 76), (1, .int v1)] [.int (fcG σ 54 v1)] σ
    refine fhW.blk fhPF fhLL hΓ [(.istore_n 2, 0), (.aload_n 0, 0), (.iload_n 2, 0)] (pc' := 36) (lv' := [(2, .int (fcG σ 54 v1)), (0, .ref 76), (1, .int v1)]) (st' := [.int (fcG σ 54 v1), .ref 76]) (σ' := σ) (by decide +kernel) rfl rfl rfl ?_
    obtain ⟨q2, hb1, h⟩ := Option.bind_eq_some_iff.mp h
    refine fhW.callv hΓ mvX1_isFitting ml_1_110 (t := 76) (ci := 1) (av := [.int (fcG σ 54 v1)]) (rest := []) (r := (some (.int (fhb q2)))) (σ' := σ) (T_X1_isFitting (E := fhEn Γ) (d := fhD Γ - 1) hE (by omega) (fcG σ 54 v1) σ hb1) (by omega) (by decide +kernel) rfl rfl rfl (Nat.le_of_ble_eq_true rfl) rfl ?_
    show fhW fhYF Γ 39 [(2, .int (fcG σ 54 v1)), (0, .ref 76), (1, .int v1)] [.int (fhb q2)] σ
    refine fhW.b_eq hΓ (tgt := 64) (show fhbk _ _ (.ifCond .eq (25)) _ = true by decide +kernel) (fun hc => ?_) (fun hc => ?_)
    · rw [if_neg hc] at h
      refine fhW.sub (lv' := [(0, .ref 76), (1, .int v1)]) [1, 2] rfl ?_
      exact L_X1_findFitting_64 hE hΓ hd v1 σ _ h hk
    · rw [if_pos hc] at h
      refine fhW.blk fhPF fhLL hΓ [(.aload_n 0, 0), (.getfield 38, 0), (.aload_n 0, 0), (.getfield 107, 0), (.iload_n 2, 0)] (pc' := 51) (lv' := [(2, .int (fcG σ 54 v1)), (0, .ref 76), (1, .int v1)]) (st' := [.int (fcG σ 54 v1), .int (σ.1 76 12), .ref 91]) (σ' := σ) (by decide +kernel) rfl rfl rfl ?_
      refine fhW.callv hΓ mvX2_put ml_1_74 (t := 91) (ci := 2) (av := [.int (σ.1 76 12), .int (fcG σ 54 v1)]) (rest := []) (r := none) (σ' := (fcP σ 91 (σ.1 76 12) (fcG σ 54 v1))) (T_X2_put (E := fhEn Γ) (d := fhD Γ - 1) hE (by omega) 91 (σ.1 76 12) (fcG σ 54 v1) rfl σ) (by omega) (by decide +kernel) rfl rfl rfl (Nat.le_of_ble_eq_true rfl) rfl ?_
      show fhW fhYF Γ 54 [(2, .int (fcG σ 54 v1)), (0, .ref 76), (1, .int v1)] [] (fcP σ 91 (σ.1 76 12) (fcG σ 54 v1))
      refine fhW.blk fhPF fhLL hΓ [(.aload_n 0, 0), (.dup, 0), (.getfield 107, 0), (.iconst 1, 1), (.iadd, 0), (.putfield 107, 0)] (pc' := 64) (lv' := [(2, .int (fcG σ 54 v1)), (0, .ref 76), (1, .int v1)]) (st' := []) (σ' := (fhI (fcP σ 91 (σ.1 76 12) (fcG σ 54 v1)) 76 12 ((σ.1 76 12) + (1 : Int32)))) (by decide +kernel) rfl rfl rfl ?_
      refine fhW.sub (lv' := [(0, .ref 76), (1, .int v1)]) [1, 2] rfl ?_
      exact L_X1_findFitting_64 hE hΓ hd v1 (fhI (fcP σ 91 (σ.1 76 12) (fcG σ 54 v1)) 76 12 ((σ.1 76 12) + (1 : Int32))) _ h hk
set_option maxRecDepth 100000 in
set_option maxHeartbeats 4000000 in
theorem L_X1_findFitting_E {Γ : fhX} (hE : fhEok fhYF (fhEn Γ)) (hΓ : fhOk fhYF 1 cX1_findFitting 3 none Γ) (hd : 5 ≤ fhD Γ)   (σ : fhM) (o : fhM) (h : f_X1_findFitting σ = some o) (hk : (fun o => fhRet Γ none o) o) : fhW fhYF Γ 0 [(0, .ref 76)] [] σ := by
  unfold f_X1_findFitting at h
  refine fhW.blk fhPF fhLL hΓ [(.aload_n 0, 0)] (pc' := 1) (lv' := [(0, .ref 76)]) (st' := [.ref 76]) (σ' := σ) (by decide +kernel) rfl rfl rfl ?_
  obtain ⟨q1, hb2, h⟩ := Option.bind_eq_some_iff.mp h
  refine fhW.callv hΓ mvX1_prepare ml_1_104 (t := 76) (ci := 1) (av := []) (rest := []) (r := none) (σ' := q1) (T_X1_prepare (E := fhEn Γ) (d := fhD Γ - 1) hE (by omega) σ hb2) (by omega) (by decide +kernel) rfl rfl rfl (Nat.le_of_ble_eq_true rfl) rfl ?_
  show fhW fhYF Γ 4 [(0, .ref 76)] [] q1
  refine fhW.blk fhPF fhLL hΓ [(.aload_n 0, 0), (.iconst 0, 0), (.putfield 107, 0), (.iconst 0, 0), (.istore_n 1, 0)] (pc' := 11) (lv' := [(1, .int (0 : Int32)), (0, .ref 76)]) (st' := []) (σ' := (fhI q1 76 12 (0 : Int32))) (by decide +kernel) rfl rfl rfl ?_
  refine fhW.sub (lv' := [(0, .ref 76), (1, .int (0 : Int32))]) [1, 0] rfl ?_
  exact fhlp_ok (W := (fun x => fhW fhYF Γ 11 [(0, .ref 76), (1, .int x.1)] [] x.2)) (B := (fun o => fhRet Γ none o)) (fun x o h hk => L_X1_findFitting_11 hE hΓ hd x.1 x.2 o h hk) ((0 : Int32), (fhI q1 76 12 (0 : Int32))) _ h hk
set_option maxRecDepth 100000 in
theorem T_X1_findFitting {E : fhE} {d : Nat} (hE : fhEok fhYF E) (hd : 5 ≤ d)   (σ : fhM) {o : fhM} (h : f_X1_findFitting σ = some o) : fhC fhYF E d miX1_findFitting [.ref 76] σ none o := by
  refine fhC.of (y := yX1_findFitting) (cc := cX1_findFitting) (nL := 3) (ret := none) 1 rfl (by decide +kernel) (Nat.le_of_ble_eq_true rfl) ?_
  intro Γ hΓ hR hD hEn
  subst hD; subst hEn
  exact L_X1_findFitting_E hE hΓ hd   σ _ h hR
set_option maxRecDepth 100000 in
set_option maxHeartbeats 4000000 in
theorem L_X11_fits_E {Γ : fhX} (hE : fhEok fhYF (fhEn Γ)) (hΓ : fhOk fhYF 11 cX11_fits 2 (some .int) Γ) (hd : 6 ≤ fhD Γ) (v1 : Int32)  (σ : fhM) (o : Int32 × fhM) (h : f_X11_fits v1 σ = some o) (hk : (fun o => fhRet Γ (some (.int o.1)) o.2) o) : fhW fhYF Γ 0 [(0, .ref 0), (1, .int v1)] [] σ := by
  unfold f_X11_fits at h
  refine fhW.blk fhPF fhLL hΓ [(.aload_n 0, 0), (.getfield 131, 0)] (pc' := 4) (lv' := [(0, .ref 0), (1, .int v1)]) (st' := [.int (σ.1 0 8)]) (σ' := σ) (by decide +kernel) rfl rfl rfl ?_
  refine fhW.z_eq hΓ (tgt := 12) (show fhbk _ _ (.ifCond .eq (8)) _ = true by decide +kernel) (fun hc => ?_) (fun hc => ?_)
  · rw [if_pos hc] at h
    refine fhW.blk fhPF fhLL hΓ [(.iconst (-1), -1)] (pc' := 13) (lv' := [(0, .ref 0), (1, .int v1)]) (st' := [.int (-1 : Int32)]) (σ' := σ) (by decide +kernel) rfl rfl rfl ?_
    have e9 := Option.some.inj h
    subst e9
    exact fhW.iret hΓ (by decide +kernel) hk
  · rw [if_neg hc] at h
    refine fhW.blk fhPF fhLL hΓ [(.iload_n 1, 0), (.iconst (-1), -1)] (pc' := 9) (lv' := [(0, .ref 0), (1, .int v1)]) (st' := [.int (-1 : Int32), .int v1]) (σ' := σ) (by decide +kernel) rfl rfl rfl ?_
    refine fhW.i_ge hΓ (tgt := 14) (show fhbk _ _ (.if_icmp .ge (5)) _ = true by decide +kernel) (fun hc => ?_) (fun hc => ?_)
    · rw [if_pos hc] at h
      refine fhW.blk fhPF fhLL hΓ [(.aload_n 0, 0), (.getfield 79, 0)] (pc' := 18) (lv' := [(0, .ref 0), (1, .int v1)]) (st' := [.ref 76]) (σ' := σ) (by decide +kernel) rfl rfl rfl ?_
      obtain ⟨q1, hb1, h⟩ := Option.bind_eq_some_iff.mp h
      refine fhW.callv hΓ mvX1_findFitting ml_11_300 (t := 76) (ci := 1) (av := []) (rest := []) (r := none) (σ' := q1) (T_X1_findFitting (E := fhEn Γ) (d := fhD Γ - 1) hE (by omega) σ hb1) (by omega) (by decide +kernel) rfl rfl rfl (Nat.le_of_ble_eq_true rfl) rfl ?_
      show fhW fhYF Γ 21 [(0, .ref 0), (1, .int v1)] [] q1
      refine fhW.blk fhPF fhLL hΓ [(.iload_n 1, 0), (.iconst (-1), -1)] (pc' := 23) (lv' := [(0, .ref 0), (1, .int v1)]) (st' := [.int (-1 : Int32), .int v1]) (σ' := q1) (by decide +kernel) rfl rfl rfl ?_
      refine fhW.i_ne hΓ (tgt := 34) (show fhbk _ _ (.if_icmp .ne (11)) _ = true by decide +kernel) (fun hc => ?_) (fun hc => ?_)
      · rw [if_neg hc] at h
        refine fhW.blk fhPF fhLL hΓ [(.iload_n 1, 0), (.aload_n 0, 0), (.getfield 79, 0), (.getfield 303, 0)] (pc' := 42) (lv' := [(0, .ref 0), (1, .int v1)]) (st' := [.int (q1.1 76 12), .int v1]) (σ' := q1) (by decide +kernel) rfl rfl rfl ?_
        refine fhW.i_ge hΓ (tgt := 59) (show fhbk _ _ (.if_icmp .ge (17)) _ = true by decide +kernel) (fun hc => ?_) (fun hc => ?_)
        · rw [if_pos hc] at h
          refine fhW.blk fhPF fhLL hΓ [(.iconst (-1), -1)] (pc' := 60) (lv' := [(0, .ref 0), (1, .int v1)]) (st' := [.int (-1 : Int32)]) (σ' := q1) (by decide +kernel) rfl rfl rfl ?_
          have e9 := Option.some.inj h
          subst e9
          exact fhW.iret hΓ (by decide +kernel) hk
        · rw [if_neg hc] at h
          refine fhW.blk fhPF fhLL hΓ [(.aload_n 0, 0), (.getfield 79, 0), (.getfield 306, 0), (.iload_n 1, 0)] (pc' := 53) (lv' := [(0, .ref 0), (1, .int v1)]) (st' := [.int v1, .ref 91]) (σ' := q1) (by decide +kernel) rfl rfl rfl ?_
          refine fhW.callv hΓ mvX2_get ml_11_117 (t := 91) (ci := 2) (av := [.int v1]) (rest := []) (r := (some (.int (fcG q1 91 v1)))) (σ' := q1) (T_X2_get (E := fhEn Γ) (d := fhD Γ - 1) hE (by omega) 91 v1 rfl q1) (by omega) (by decide +kernel) rfl rfl rfl (Nat.le_of_ble_eq_true rfl) rfl ?_
          show fhW fhYF Γ 56 [(0, .ref 0), (1, .int v1)] [.int (fcG q1 91 v1)] q1
          refine fhW.goto hΓ (off := 4) (tgt := 60) (by decide +kernel) ?_
          have e9 := Option.some.inj h
          subst e9
          exact fhW.iret hΓ (by decide +kernel) hk
      · rw [if_pos hc] at h
        refine fhW.blk fhPF fhLL hΓ [(.aload_n 0, 0), (.getfield 79, 0), (.getfield 303, 0)] (pc' := 33) (lv' := [(0, .ref 0), (1, .int v1)]) (st' := [.int (q1.1 76 12)]) (σ' := q1) (by decide +kernel) rfl rfl rfl ?_
        have e9 := Option.some.inj h
        subst e9
        exact fhW.iret hΓ (by decide +kernel) hk
    · rw [if_neg hc] at h
      refine fhW.blk fhPF fhLL hΓ [(.iconst (-1), -1)] (pc' := 13) (lv' := [(0, .ref 0), (1, .int v1)]) (st' := [.int (-1 : Int32)]) (σ' := σ) (by decide +kernel) rfl rfl rfl ?_
      have e9 := Option.some.inj h
      subst e9
      exact fhW.iret hΓ (by decide +kernel) hk
set_option maxRecDepth 100000 in
theorem T_X11_fits {E : fhE} {d : Nat} (hE : fhEok fhYF E) (hd : 6 ≤ d) (v1 : Int32)  (σ : fhM) {o : Int32 × fhM} (h : f_X11_fits v1 σ = some o) : fhC fhYF E d miX11_fits [.ref 0, .int v1] σ (some (.int o.1)) o.2 := by
  refine fhC.of (y := yX11_fits) (cc := cX11_fits) (nL := 2) (ret := (some .int)) 11 rfl (by decide +kernel) (Nat.le_of_ble_eq_true rfl) ?_
  intro Γ hΓ hR hD hEn
  subst hD; subst hEn
  exact L_X11_fits_E hE hΓ hd v1  σ _ h hR
set_option maxRecDepth 100000 in
set_option maxHeartbeats 4000000 in
theorem L_X1_marksFitting_4 {Γ : fhX} (hE : fhEok fhYF (fhEn Γ)) (hΓ : fhOk fhYF 1 cX1_marksFitting 4 (some .int) Γ) (hd : 2 ≤ fhD Γ) (v1 : Int32) (v2 : Int32) (v3 : Int32)  (σ : fhM) (o : (Int32 × Int32) ⊕ (Int32)) (h : f_X1_marksFitting_4 v1 v2 v3 σ = some o) (hk : (fhK (fun x => fhW fhYF Γ 4 [(0, .ref 76), (1, .int v1), (2, .int x.1), (3, .int x.2)] [] σ) (fun o => fhRet Γ (some (.int o)) σ)) o) : fhW fhYF Γ 4 [(0, .ref 76), (1, .int v1), (2, .int v2), (3, .int v3)] [] σ := by
  unfold f_X1_marksFitting_4 at h
  refine fhW.blk fhPF fhLL hΓ [(.iload_n 3, 0), (.aload_n 0, 0), (.getfield 107, 0)] (pc' := 9) (lv' := [(0, .ref 76), (1, .int v1), (2, .int v2), (3, .int v3)]) (st' := [.int (σ.1 76 12), .int v3]) (σ' := σ) (by decide +kernel) rfl rfl rfl ?_
  refine fhW.i_ge hΓ (tgt := 39) (show fhbk _ _ (.if_icmp .ge (30)) _ = true by decide +kernel) (fun hc => ?_) (fun hc => ?_)
  · rw [if_pos hc] at h
    refine fhW.blk fhPF fhLL hΓ [(.iload_n 2, 0)] (pc' := 40) (lv' := [(0, .ref 76), (1, .int v1), (2, .int v2), (3, .int v3)]) (st' := [.int v2]) (σ' := σ) (by decide +kernel) rfl rfl rfl ?_
    have e9 := Option.some.inj h
    subst e9
    exact fhW.iret hΓ (by decide +kernel) hk
  · rw [if_neg hc] at h
    refine fhW.blk fhPF fhLL hΓ [(.iload_n 2, 0), (.iconst 1, 1), (.aload_n 0, 0), (.getfield 41, 0), (.aload_n 0, 0), (.getfield 38, 0), (.iload_n 3, 0)] (pc' := 23) (lv' := [(0, .ref 76), (1, .int v1), (2, .int v2), (3, .int v3)]) (st' := [.int v3, .ref 91, .ref 39, .int (1 : Int32), .int v2]) (σ' := σ) (by decide +kernel) rfl rfl rfl ?_
    refine fhW.callv hΓ mvX2_get ml_1_70 (t := 91) (ci := 2) (av := [.int v3]) (rest := [.ref 39, .int (1 : Int32), .int v2]) (r := (some (.int (fcG σ 91 v3)))) (σ' := σ) (T_X2_get (E := fhEn Γ) (d := fhD Γ - 1) hE (by omega) 91 v3 rfl σ) (by omega) (by decide +kernel) rfl rfl rfl (Nat.le_of_ble_eq_true rfl) rfl ?_
    show fhW fhYF Γ 26 [(0, .ref 76), (1, .int v1), (2, .int v2), (3, .int v3)] [.int (fcG σ 91 v3), .ref 39, .int (1 : Int32), .int v2] σ
    refine fhW.blk fhPF fhLL hΓ [(.iload_n 1, 0)] (pc' := 27) (lv' := [(0, .ref 76), (1, .int v1), (2, .int v2), (3, .int v3)]) (st' := [.int v1, .int (fcG σ 91 v3), .ref 39, .int (1 : Int32), .int v2]) (σ' := σ) (by decide +kernel) rfl rfl rfl ?_
    refine fhW.callv hΓ mvX9_markOf ml_1_114 (t := 39) (ci := 9) (av := [.int (fcG σ 91 v3), .int v1]) (rest := [.int (1 : Int32), .int v2]) (r := (some (.int (f_X9_markOf (fcG σ 91 v3) v1 σ)))) (σ' := σ) (T_X9_markOf (E := fhEn Γ) (d := fhD Γ - 1) hE (by omega) (fcG σ 91 v3) v1 σ) (by omega) (by decide +kernel) rfl rfl rfl (Nat.le_of_ble_eq_true rfl) rfl ?_
    show fhW fhYF Γ 30 [(0, .ref 76), (1, .int v1), (2, .int v2), (3, .int v3)] [.int (f_X9_markOf (fcG σ 91 v3) v1 σ), .int (1 : Int32), .int v2] σ
    refine fhW.blk fhPF fhLL hΓ [(.ishl, 0), (.ior, 0), (.istore_n 2, 0)] (pc' := 33) (lv' := [(2, .int (v2 ||| ((1 : Int32) <<< ((f_X9_markOf (fcG σ 91 v3) v1 σ) &&& 31)))), (0, .ref 76), (1, .int v1), (3, .int v3)]) (st' := []) (σ' := σ) (by decide +kernel) rfl rfl rfl ?_
    obtain ⟨w2_1, e1, h⟩ := fhlet_elim h
    rw [← e1]
    refine fhW.blk fhPF fhLL hΓ [(.iinc 3 1, 1)] (pc' := 36) (lv' := [(3, .int (v3 + (1 : Int32))), (2, .int w2_1), (0, .ref 76), (1, .int v1)]) (st' := []) (σ' := σ) (by decide +kernel) rfl rfl rfl ?_
    refine fhW.goto hΓ (off := (-32)) (tgt := 4) (by decide +kernel) ?_
    refine fhW.sub (lv' := [(0, .ref 76), (1, .int v1), (2, .int w2_1), (3, .int (v3 + (1 : Int32)))]) [2, 3, 1, 0] rfl ?_
    have e9 := Option.some.inj h
    subst e9
    exact hk
set_option maxRecDepth 100000 in
set_option maxHeartbeats 4000000 in
theorem L_X1_marksFitting_E {Γ : fhX} (hE : fhEok fhYF (fhEn Γ)) (hΓ : fhOk fhYF 1 cX1_marksFitting 4 (some .int) Γ) (hd : 2 ≤ fhD Γ) (v1 : Int32)  (σ : fhM) (o : Int32) (h : f_X1_marksFitting v1 σ = some o) (hk : (fun o => fhRet Γ (some (.int o)) σ) o) : fhW fhYF Γ 0 [(0, .ref 76), (1, .int v1)] [] σ := by
  unfold f_X1_marksFitting at h
  refine fhW.blk fhPF fhLL hΓ [(.iconst 0, 0), (.istore_n 2, 0), (.iconst 0, 0), (.istore_n 3, 0)] (pc' := 4) (lv' := [(3, .int (0 : Int32)), (2, .int (0 : Int32)), (0, .ref 76), (1, .int v1)]) (st' := []) (σ' := σ) (by decide +kernel) rfl rfl rfl ?_
  refine fhW.sub (lv' := [(0, .ref 76), (1, .int v1), (2, .int (0 : Int32)), (3, .int (0 : Int32))]) [2, 3, 1, 0] rfl ?_
  exact fhlp_ok (W := (fun x => fhW fhYF Γ 4 [(0, .ref 76), (1, .int v1), (2, .int x.1), (3, .int x.2)] [] σ)) (B := (fun o => fhRet Γ (some (.int o)) σ)) (fun x o h hk => L_X1_marksFitting_4 hE hΓ hd v1 x.1 x.2 σ o h hk) ((0 : Int32), (0 : Int32)) _ h hk
set_option maxRecDepth 100000 in
theorem T_X1_marksFitting {E : fhE} {d : Nat} (hE : fhEok fhYF E) (hd : 2 ≤ d) (v1 : Int32)  (σ : fhM) {o : Int32} (h : f_X1_marksFitting v1 σ = some o) : fhC fhYF E d miX1_marksFitting [.ref 76, .int v1] σ (some (.int o)) σ := by
  refine fhC.of (y := yX1_marksFitting) (cc := cX1_marksFitting) (nL := 4) (ret := (some .int)) 1 rfl (by decide +kernel) (Nat.le_of_ble_eq_true rfl) ?_
  intro Γ hΓ hR hD hEn
  subst hD; subst hEn
  exact L_X1_marksFitting_E hE hΓ hd v1  σ _ h hR
set_option maxRecDepth 100000 in
set_option maxHeartbeats 4000000 in
theorem L_X11_could_E {Γ : fhX} (hE : fhEok fhYF (fhEn Γ)) (hΓ : fhOk fhYF 11 cX11_could 2 (some .int) Γ) (hd : 6 ≤ fhD Γ) (v1 : Int32)  (σ : fhM) (o : Int32 × fhM) (h : f_X11_could v1 σ = some o) (hk : (fun o => fhRet Γ (some (.int o.1)) o.2) o) : fhW fhYF Γ 0 [(0, .ref 0), (1, .int v1)] [] σ := by
  unfold f_X11_could at h
  refine fhW.blk fhPF fhLL hΓ [(.aload_n 0, 0), (.iload_n 1, 0)] (pc' := 2) (lv' := [(0, .ref 0), (1, .int v1)]) (st' := [.int v1, .ref 0]) (σ' := σ) (by decide +kernel) rfl rfl rfl ?_
  refine fhW.callv hΓ mvX11_isGuest ml_11_201 (t := 0) (ci := 11) (av := [.int v1]) (rest := []) (r := (some (.int (fhb (f_X11_isGuest v1 σ))))) (σ' := σ) (T_X11_isGuest (E := fhEn Γ) (d := fhD Γ - 1) hE (by omega) v1 σ) (by omega) (by decide +kernel) rfl rfl rfl (Nat.le_of_ble_eq_true rfl) rfl ?_
  show fhW fhYF Γ 5 [(0, .ref 0), (1, .int v1)] [.int (fhb (f_X11_isGuest v1 σ))] σ
  refine fhW.b_ne hΓ (tgt := 10) (show fhbk _ _ (.ifCond .ne (5)) _ = true by decide +kernel) (fun hc => ?_) (fun hc => ?_)
  · rw [if_pos hc] at h
    refine fhW.blk fhPF fhLL hΓ [(.aload_n 0, 0), (.getfield 79, 0)] (pc' := 14) (lv' := [(0, .ref 0), (1, .int v1)]) (st' := [.ref 76]) (σ' := σ) (by decide +kernel) rfl rfl rfl ?_
    obtain ⟨q1, hb1, h⟩ := Option.bind_eq_some_iff.mp h
    refine fhW.callv hΓ mvX1_findFitting ml_11_300 (t := 76) (ci := 1) (av := []) (rest := []) (r := none) (σ' := q1) (T_X1_findFitting (E := fhEn Γ) (d := fhD Γ - 1) hE (by omega) σ hb1) (by omega) (by decide +kernel) rfl rfl rfl (Nat.le_of_ble_eq_true rfl) rfl ?_
    show fhW fhYF Γ 17 [(0, .ref 0), (1, .int v1)] [] q1
    refine fhW.blk fhPF fhLL hΓ [(.aload_n 0, 0), (.getfield 79, 0), (.iload_n 1, 0)] (pc' := 22) (lv' := [(0, .ref 0), (1, .int v1)]) (st' := [.int v1, .ref 76]) (σ' := q1) (by decide +kernel) rfl rfl rfl ?_
    obtain ⟨q2, hb2, h⟩ := Option.bind_eq_some_iff.mp h
    refine fhW.callv hΓ mvX1_marksFitting ml_11_309 (t := 76) (ci := 1) (av := [.int v1]) (rest := []) (r := (some (.int q2))) (σ' := q1) (T_X1_marksFitting (E := fhEn Γ) (d := fhD Γ - 1) hE (by omega) v1 q1 hb2) (by omega) (by decide +kernel) rfl rfl rfl (Nat.le_of_ble_eq_true rfl) rfl ?_
    show fhW fhYF Γ 25 [(0, .ref 0), (1, .int v1)] [.int q2] q1
    have e9 := Option.some.inj h
    subst e9
    exact fhW.iret hΓ (by decide +kernel) hk
  · rw [if_neg hc] at h
    refine fhW.blk fhPF fhLL hΓ [(.iconst (-1), -1)] (pc' := 9) (lv' := [(0, .ref 0), (1, .int v1)]) (st' := [.int (-1 : Int32)]) (σ' := σ) (by decide +kernel) rfl rfl rfl ?_
    have e9 := Option.some.inj h
    subst e9
    exact fhW.iret hΓ (by decide +kernel) hk
set_option maxRecDepth 100000 in
theorem T_X11_could {E : fhE} {d : Nat} (hE : fhEok fhYF E) (hd : 6 ≤ d) (v1 : Int32)  (σ : fhM) {o : Int32 × fhM} (h : f_X11_could v1 σ = some o) : fhC fhYF E d miX11_could [.ref 0, .int v1] σ (some (.int o.1)) o.2 := by
  refine fhC.of (y := yX11_could) (cc := cX11_could) (nL := 2) (ret := (some .int)) 11 rfl (by decide +kernel) (Nat.le_of_ble_eq_true rfl) ?_
  intro Γ hΓ hR hD hEn
  subst hD; subst hEn
  exact L_X11_could_E hE hΓ hd v1  σ _ h hR
set_option maxRecDepth 100000 in
set_option maxHeartbeats 4000000 in
theorem L_X1_mostLeft_38 {Γ : fhX} (hE : fhEok fhYF (fhEn Γ)) (hΓ : fhOk fhYF 1 cX1_mostLeft 5 (some .int) Γ) (hd : 2 ≤ fhD Γ) (v1 : Int32) (v2 : Int32) (v4 : Int32) (s0 : Int32) (s1 : Int32)  (σ : fhM) (o : (Int32 × Int32) ⊕ (Int32)) (h : f_X1_mostLeft_38 v1 v2 v4 s0 s1 σ = some o) (hk : (fhK (fun x => fhW fhYF Γ 5 [(0, .ref 76), (1, .int v1), (2, .int v2), (3, .int x.1), (4, .int x.2)] [] σ) (fun o => fhRet Γ (some (.int o)) σ)) o) : fhW fhYF Γ 38 [(0, .ref 76), (1, .int v1), (2, .int v2), (4, .int v4)] [.int s0, .int s1] σ := by
  unfold f_X1_mostLeft_38 at h
  refine fhW.blk fhPF fhLL hΓ [(.iadd, 0), (.istore_n 3, 0), (.iinc 4 1, 1)] (pc' := 43) (lv' := [(4, .int (v4 + (1 : Int32))), (3, .int (s1 + s0)), (0, .ref 76), (1, .int v1), (2, .int v2)]) (st' := []) (σ' := σ) (by decide +kernel) rfl rfl rfl ?_
  refine fhW.goto hΓ (off := (-38)) (tgt := 5) (by decide +kernel) ?_
  refine fhW.sub (lv' := [(0, .ref 76), (1, .int v1), (2, .int v2), (3, .int (s1 + s0)), (4, .int (v4 + (1 : Int32)))]) [2, 3, 4, 1, 0] rfl ?_
  have e9 := Option.some.inj h
  subst e9
  exact hk
set_option maxRecDepth 100000 in
set_option maxHeartbeats 4000000 in
theorem L_X1_mostLeft_5 {Γ : fhX} (hE : fhEok fhYF (fhEn Γ)) (hΓ : fhOk fhYF 1 cX1_mostLeft 5 (some .int) Γ) (hd : 2 ≤ fhD Γ) (v1 : Int32) (v2 : Int32) (v3 : Int32) (v4 : Int32)  (σ : fhM) (o : (Int32 × Int32) ⊕ (Int32)) (h : f_X1_mostLeft_5 v1 v2 v3 v4 σ = some o) (hk : (fhK (fun x => fhW fhYF Γ 5 [(0, .ref 76), (1, .int v1), (2, .int v2), (3, .int x.1), (4, .int x.2)] [] σ) (fun o => fhRet Γ (some (.int o)) σ)) o) : fhW fhYF Γ 5 [(0, .ref 76), (1, .int v1), (2, .int v2), (3, .int v3), (4, .int v4)] [] σ := by
  unfold f_X1_mostLeft_5 at h
  refine fhW.blk fhPF fhLL hΓ [(.iload 4, 0), (.aload_n 0, 0), (.getfield 107, 0)] (pc' := 11) (lv' := [(0, .ref 76), (1, .int v1), (2, .int v2), (3, .int v3), (4, .int v4)]) (st' := [.int (σ.1 76 12), .int v4]) (σ' := σ) (by decide +kernel) rfl rfl rfl ?_
  refine fhW.i_ge hΓ (tgt := 46) (show fhbk _ _ (.if_icmp .ge (35)) _ = true by decide +kernel) (fun hc => ?_) (fun hc => ?_)
  · rw [if_pos hc] at h
    refine fhW.blk fhPF fhLL hΓ [(.iload_n 3, 0), (.aload_n 0, 0), (.getfield 107, 0), (.iload_n 3, 0), (.isub, 0)] (pc' := 53) (lv' := [(0, .ref 76), (1, .int v1), (2, .int v2), (3, .int v3), (4, .int v4)]) (st' := [.int ((σ.1 76 12) - v3), .int v3]) (σ' := σ) (by decide +kernel) rfl rfl rfl ?_
    refine fhW.calls hΓ msJ9_max_7cf53 ml_1_120 (av := [.int v3, .int ((σ.1 76 12) - v3)]) (rest := []) (r := (some (.int (f_J9_max_7cf53 v3 ((σ.1 76 12) - v3) σ)))) (σ' := σ) (T_J9_max_7cf53 (E := fhEn Γ) (d := fhD Γ - 1) hE (by omega) v3 ((σ.1 76 12) - v3) σ) (by omega) (by decide +kernel) rfl (Nat.le_of_ble_eq_true rfl) rfl ?_
    show fhW fhYF Γ 56 [(0, .ref 76), (1, .int v1), (2, .int v2), (3, .int v3), (4, .int v4)] [.int (f_J9_max_7cf53 v3 ((σ.1 76 12) - v3) σ)] σ
    have e9 := Option.some.inj h
    subst e9
    exact fhW.iret hΓ (by decide +kernel) hk
  · rw [if_neg hc] at h
    refine fhW.blk fhPF fhLL hΓ [(.iload_n 3, 0), (.aload_n 0, 0), (.aload_n 0, 0), (.getfield 38, 0), (.iload 4, 0)] (pc' := 22) (lv' := [(0, .ref 76), (1, .int v1), (2, .int v2), (3, .int v3), (4, .int v4)]) (st' := [.int v4, .ref 91, .ref 76, .int v3]) (σ' := σ) (by decide +kernel) rfl rfl rfl ?_
    refine fhW.callv hΓ mvX2_get ml_1_70 (t := 91) (ci := 2) (av := [.int v4]) (rest := [.ref 76, .int v3]) (r := (some (.int (fcG σ 91 v4)))) (σ' := σ) (T_X2_get (E := fhEn Γ) (d := fhD Γ - 1) hE (by omega) 91 v4 rfl σ) (by omega) (by decide +kernel) rfl rfl rfl (Nat.le_of_ble_eq_true rfl) rfl ?_
    show fhW fhYF Γ 25 [(0, .ref 76), (1, .int v1), (2, .int v2), (3, .int v3), (4, .int v4)] [.int (fcG σ 91 v4), .ref 76, .int v3] σ
    refine fhW.blk fhPF fhLL hΓ [(.iload_n 2, 0)] (pc' := 26) (lv' := [(0, .ref 76), (1, .int v1), (2, .int v2), (3, .int v3), (4, .int v4)]) (st' := [.int v2, .int (fcG σ 91 v4), .ref 76, .int v3]) (σ' := σ) (by decide +kernel) rfl rfl rfl ?_
    refine fhW.callv hΓ mvX1_firstKnown ml_1_101 (t := 76) (ci := 1) (av := [.int (fcG σ 91 v4), .int v2]) (rest := [.int v3]) (r := (some (.int (f_X1_firstKnown (fcG σ 91 v4) v2 σ)))) (σ' := σ) (T_X1_firstKnown (E := fhEn Γ) (d := fhD Γ - 1) hE (by omega) (fcG σ 91 v4) v2 σ) (by omega) (by decide +kernel) rfl rfl rfl (Nat.le_of_ble_eq_true rfl) rfl ?_
    show fhW fhYF Γ 29 [(0, .ref 76), (1, .int v1), (2, .int v2), (3, .int v3), (4, .int v4)] [.int (f_X1_firstKnown (fcG σ 91 v4) v2 σ), .int v3] σ
    refine fhW.blk fhPF fhLL hΓ [(.iload_n 1, 0)] (pc' := 30) (lv' := [(0, .ref 76), (1, .int v1), (2, .int v2), (3, .int v3), (4, .int v4)]) (st' := [.int v1, .int (f_X1_firstKnown (fcG σ 91 v4) v2 σ), .int v3]) (σ' := σ) (by decide +kernel) rfl rfl rfl ?_
    refine fhW.i_gt hΓ (tgt := 37) (show fhbk _ _ (.if_icmp .gt (7)) _ = true by decide +kernel) (fun hc => ?_) (fun hc => ?_)
    · simp only [if_pos hc] at h
      refine fhW.blk fhPF fhLL hΓ [(.iconst 0, 0)] (pc' := 38) (lv' := [(0, .ref 76), (1, .int v1), (2, .int v2), (3, .int v3), (4, .int v4)]) (st' := [.int (0 : Int32), .int v3]) (σ' := σ) (by decide +kernel) rfl rfl rfl ?_
      refine fhW.sub (lv' := [(0, .ref 76), (1, .int v1), (2, .int v2), (4, .int v4)]) [0, 1, 2, 4] rfl ?_
      exact L_X1_mostLeft_38 hE hΓ hd v1 v2 v4 (0 : Int32) v3 σ _ h hk
    · simp only [if_neg hc] at h
      refine fhW.blk fhPF fhLL hΓ [(.iconst 1, 1)] (pc' := 34) (lv' := [(0, .ref 76), (1, .int v1), (2, .int v2), (3, .int v3), (4, .int v4)]) (st' := [.int (1 : Int32), .int v3]) (σ' := σ) (by decide +kernel) rfl rfl rfl ?_
      refine fhW.goto hΓ (off := 4) (tgt := 38) (by decide +kernel) ?_
      refine fhW.sub (lv' := [(0, .ref 76), (1, .int v1), (2, .int v2), (4, .int v4)]) [0, 1, 2, 4] rfl ?_
      exact L_X1_mostLeft_38 hE hΓ hd v1 v2 v4 (1 : Int32) v3 σ _ h hk
set_option maxRecDepth 100000 in
set_option maxHeartbeats 4000000 in
theorem L_X1_mostLeft_E {Γ : fhX} (hE : fhEok fhYF (fhEn Γ)) (hΓ : fhOk fhYF 1 cX1_mostLeft 5 (some .int) Γ) (hd : 2 ≤ fhD Γ) (v1 : Int32) (v2 : Int32)  (σ : fhM) (o : Int32) (h : f_X1_mostLeft v1 v2 σ = some o) (hk : (fun o => fhRet Γ (some (.int o)) σ) o) : fhW fhYF Γ 0 [(0, .ref 76), (1, .int v1), (2, .int v2)] [] σ := by
  unfold f_X1_mostLeft at h
  refine fhW.blk fhPF fhLL hΓ [(.iconst 0, 0), (.istore_n 3, 0), (.iconst 0, 0), (.istore 4, 0)] (pc' := 5) (lv' := [(4, .int (0 : Int32)), (3, .int (0 : Int32)), (0, .ref 76), (1, .int v1), (2, .int v2)]) (st' := []) (σ' := σ) (by decide +kernel) rfl rfl rfl ?_
  refine fhW.sub (lv' := [(0, .ref 76), (1, .int v1), (2, .int v2), (3, .int (0 : Int32)), (4, .int (0 : Int32))]) [2, 3, 4, 1, 0] rfl ?_
  exact fhlp_ok (W := (fun x => fhW fhYF Γ 5 [(0, .ref 76), (1, .int v1), (2, .int v2), (3, .int x.1), (4, .int x.2)] [] σ)) (B := (fun o => fhRet Γ (some (.int o)) σ)) (fun x o h hk => L_X1_mostLeft_5 hE hΓ hd v1 v2 x.1 x.2 σ o h hk) ((0 : Int32), (0 : Int32)) _ h hk
set_option maxRecDepth 100000 in
theorem T_X1_mostLeft {E : fhE} {d : Nat} (hE : fhEok fhYF E) (hd : 2 ≤ d) (v1 : Int32) (v2 : Int32)  (σ : fhM) {o : Int32} (h : f_X1_mostLeft v1 v2 σ = some o) : fhC fhYF E d miX1_mostLeft [.ref 76, .int v1, .int v2] σ (some (.int o)) σ := by
  refine fhC.of (y := yX1_mostLeft) (cc := cX1_mostLeft) (nL := 5) (ret := (some .int)) 1 rfl (by decide +kernel) (Nat.le_of_ble_eq_true rfl) ?_
  intro Γ hΓ hR hD hEn
  subst hD; subst hEn
  exact L_X1_mostLeft_E hE hΓ hd v1 v2  σ _ h hR
set_option maxRecDepth 100000 in
set_option maxHeartbeats 4000000 in
theorem L_X1_bestTelling_54 {Γ : fhX} (hE : fhEok fhYF (fhEn Γ)) (hΓ : fhOk fhYF 1 cX1_bestTelling 6 (some .int) Γ) (hd : 3 ≤ fhD Γ) (v1 : Int32) (v2 : Int32) (v3 : Int32) (v4 : Int32)  (σ : fhM) (o : (Int32 × Int32 × Int32) ⊕ ((Int32 × Int32 × Int32) ⊕ (Int32))) (h : f_X1_bestTelling_54 v1 v2 v3 v4 σ = some o) (hk : (fhK (fun x => fhW fhYF Γ 17 [(0, .ref 76), (1, .int x.1), (2, .int x.2.1), (3, .int v3), (4, .int x.2.2)] [] σ) (fhK (fun x => fhW fhYF Γ 8 [(0, .ref 76), (1, .int x.1), (2, .int x.2.1), (3, .int x.2.2)] [] σ) (fun o => fhRet Γ (some (.int o)) σ))) o) : fhW fhYF Γ 54 [(0, .ref 76), (1, .int v1), (2, .int v2), (3, .int v3), (4, .int v4)] [] σ := by
  unfold f_X1_bestTelling_54 at h
  refine fhW.blk fhPF fhLL hΓ [(.iinc 4 1, 1)] (pc' := 57) (lv' := [(4, .int (v4 + (1 : Int32))), (0, .ref 76), (1, .int v1), (2, .int v2), (3, .int v3)]) (st' := []) (σ' := σ) (by decide +kernel) rfl rfl rfl ?_
  refine fhW.goto hΓ (off := (-40)) (tgt := 17) (by decide +kernel) ?_
  refine fhW.sub (lv' := [(0, .ref 76), (1, .int v1), (2, .int v2), (3, .int v3), (4, .int (v4 + (1 : Int32)))]) [1, 2, 3, 4, 0] rfl ?_
  have e9 := Option.some.inj h
  subst e9
  exact hk
set_option maxRecDepth 100000 in
set_option maxHeartbeats 4000000 in
theorem L_X1_bestTelling_17 {Γ : fhX} (hE : fhEok fhYF (fhEn Γ)) (hΓ : fhOk fhYF 1 cX1_bestTelling 6 (some .int) Γ) (hd : 3 ≤ fhD Γ) (v1 : Int32) (v2 : Int32) (v3 : Int32) (v4 : Int32)  (σ : fhM) (o : (Int32 × Int32 × Int32) ⊕ ((Int32 × Int32 × Int32) ⊕ (Int32))) (h : f_X1_bestTelling_17 v1 v2 v3 v4 σ = some o) (hk : (fhK (fun x => fhW fhYF Γ 17 [(0, .ref 76), (1, .int x.1), (2, .int x.2.1), (3, .int v3), (4, .int x.2.2)] [] σ) (fhK (fun x => fhW fhYF Γ 8 [(0, .ref 76), (1, .int x.1), (2, .int x.2.1), (3, .int x.2.2)] [] σ) (fun o => fhRet Γ (some (.int o)) σ))) o) : fhW fhYF Γ 17 [(0, .ref 76), (1, .int v1), (2, .int v2), (3, .int v3), (4, .int v4)] [] σ := by
  unfold f_X1_bestTelling_17 at h
  refine fhW.blk fhPF fhLL hΓ [(.iload 4, 0), (.aload_n 0, 0), (.getfield 41, 0), (.getfield 92, 0)] (pc' := 26) (lv' := [(0, .ref 76), (1, .int v1), (2, .int v2), (3, .int v3), (4, .int v4)]) (st' := [.int (σ.1 39 9), .int v4]) (σ' := σ) (by decide +kernel) rfl rfl rfl ?_
  refine fhW.i_ge hΓ (tgt := 60) (show fhbk _ _ (.if_icmp .ge (34)) _ = true by decide +kernel) (fun hc => ?_) (fun hc => ?_)
  · rw [if_pos hc] at h
    refine fhW.blk fhPF fhLL hΓ [(.iinc 3 1, 1)] (pc' := 63) (lv' := [(3, .int (v3 + (1 : Int32))), (0, .ref 76), (1, .int v1), (2, .int v2), (4, .int v4)]) (st' := []) (σ' := σ) (by decide +kernel) rfl rfl rfl ?_
    refine fhW.goto hΓ (off := (-55)) (tgt := 8) (by decide +kernel) ?_
    refine fhW.sub (lv' := [(0, .ref 76), (1, .int v1), (2, .int v2), (3, .int (v3 + (1 : Int32)))]) [1, 2, 3, 0] rfl ?_
    have e9 := Option.some.inj h
    subst e9
    exact hk
  · rw [if_neg hc] at h
    refine fhW.blk fhPF fhLL hΓ [(.aload_n 0, 0), (.iload_n 3, 0), (.iload 4, 0)] (pc' := 33) (lv' := [(0, .ref 76), (1, .int v1), (2, .int v2), (3, .int v3), (4, .int v4)]) (st' := [.int v4, .int v3, .ref 76]) (σ' := σ) (by decide +kernel) rfl rfl rfl ?_
    obtain ⟨q1, hb1, h⟩ := Option.bind_eq_some_iff.mp h
    refine fhW.callv hΓ mvX1_mostLeft ml_1_117 (t := 76) (ci := 1) (av := [.int v3, .int v4]) (rest := []) (r := (some (.int q1))) (σ' := σ) (T_X1_mostLeft (E := fhEn Γ) (d := fhD Γ - 1) hE (by omega) v3 v4 σ hb1) (by omega) (by decide +kernel) rfl rfl rfl (Nat.le_of_ble_eq_true rfl) rfl ?_
    show fhW fhYF Γ 36 [(0, .ref 76), (1, .int v1), (2, .int v2), (3, .int v3), (4, .int v4)] [.int q1] σ
    refine fhW.blk fhPF fhLL hΓ [(.istore 5, 0), (.iload 5, 0), (.iload_n 2, 0)] (pc' := 41) (lv' := [(5, .int q1), (0, .ref 76), (1, .int v1), (2, .int v2), (3, .int v3), (4, .int v4)]) (st' := [.int v2, .int q1]) (σ' := σ) (by decide +kernel) rfl rfl rfl ?_
    refine fhW.i_ge hΓ (tgt := 54) (show fhbk _ _ (.if_icmp .ge (13)) _ = true by decide +kernel) (fun hc => ?_) (fun hc => ?_)
    · simp only [if_pos hc] at h
      refine fhW.sub (lv' := [(0, .ref 76), (1, .int v1), (2, .int v2), (3, .int v3), (4, .int v4)]) [1, 2, 3, 4, 5] rfl ?_
      exact L_X1_bestTelling_54 hE hΓ hd v1 v2 v3 v4 σ _ h hk
    · simp only [if_neg hc] at h
      refine fhW.blk fhPF fhLL hΓ [(.iload_n 3, 0), (.iconst 5, 5), (.imul, 0), (.iload 4, 0), (.iadd, 0), (.istore_n 1, 0), (.iload 5, 0), (.istore_n 2, 0)] (pc' := 54) (lv' := [(2, .int q1), (1, .int ((v3 * (5 : Int32)) + v4)), (5, .int q1), (0, .ref 76), (3, .int v3), (4, .int v4)]) (st' := []) (σ' := σ) (by decide +kernel) rfl rfl rfl ?_
      refine fhW.sub (lv' := [(0, .ref 76), (1, .int ((v3 * (5 : Int32)) + v4)), (2, .int q1), (3, .int v3), (4, .int v4)]) [3, 1, 0, 4, 5] rfl ?_
      exact L_X1_bestTelling_54 hE hΓ hd ((v3 * (5 : Int32)) + v4) q1 v3 v4 σ _ h hk
set_option maxRecDepth 100000 in
set_option maxHeartbeats 4000000 in
theorem L_X1_bestTelling_8 {Γ : fhX} (hE : fhEok fhYF (fhEn Γ)) (hΓ : fhOk fhYF 1 cX1_bestTelling 6 (some .int) Γ) (hd : 3 ≤ fhD Γ) (v1 : Int32) (v2 : Int32) (v3 : Int32)  (σ : fhM) (o : (Int32 × Int32 × Int32) ⊕ (Int32)) (h : f_X1_bestTelling_8 v1 v2 v3 σ = some o) (hk : (fhK (fun x => fhW fhYF Γ 8 [(0, .ref 76), (1, .int x.1), (2, .int x.2.1), (3, .int x.2.2)] [] σ) (fun o => fhRet Γ (some (.int o)) σ)) o) : fhW fhYF Γ 8 [(0, .ref 76), (1, .int v1), (2, .int v2), (3, .int v3)] [] σ := by
  unfold f_X1_bestTelling_8 at h
  refine fhW.blk fhPF fhLL hΓ [(.iload_n 3, 0), (.bipush 16, 16)] (pc' := 11) (lv' := [(0, .ref 76), (1, .int v1), (2, .int v2), (3, .int v3)]) (st' := [.int (16 : Int32), .int v3]) (σ' := σ) (by decide +kernel) rfl rfl rfl ?_
  refine fhW.i_ge hΓ (tgt := 66) (show fhbk _ _ (.if_icmp .ge (55)) _ = true by decide +kernel) (fun hc => ?_) (fun hc => ?_)
  · rw [if_pos hc] at h
    refine fhW.blk fhPF fhLL hΓ [(.iload_n 1, 0)] (pc' := 67) (lv' := [(0, .ref 76), (1, .int v1), (2, .int v2), (3, .int v3)]) (st' := [.int v1]) (σ' := σ) (by decide +kernel) rfl rfl rfl ?_
    have e9 := Option.some.inj h
    subst e9
    exact fhW.iret hΓ (by decide +kernel) hk
  · rw [if_neg hc] at h
    refine fhW.blk fhPF fhLL hΓ [(.iconst 0, 0), (.istore 4, 0)] (pc' := 17) (lv' := [(4, .int (0 : Int32)), (0, .ref 76), (1, .int v1), (2, .int v2), (3, .int v3)]) (st' := []) (σ' := σ) (by decide +kernel) rfl rfl rfl ?_
    refine fhW.sub (lv' := [(0, .ref 76), (1, .int v1), (2, .int v2), (3, .int v3), (4, .int (0 : Int32))]) [1, 2, 3, 4, 0] rfl ?_
    exact fhlp_ok (W := (fun x => fhW fhYF Γ 17 [(0, .ref 76), (1, .int x.1), (2, .int x.2.1), (3, .int v3), (4, .int x.2.2)] [] σ)) (B := (fhK (fun x => fhW fhYF Γ 8 [(0, .ref 76), (1, .int x.1), (2, .int x.2.1), (3, .int x.2.2)] [] σ) (fun o => fhRet Γ (some (.int o)) σ))) (fun x o h hk => L_X1_bestTelling_17 hE hΓ hd x.1 x.2.1 v3 x.2.2 σ o h hk) (v1, v2, (0 : Int32)) _ h hk
set_option maxRecDepth 100000 in
set_option maxHeartbeats 4000000 in
theorem L_X1_bestTelling_E {Γ : fhX} (hE : fhEok fhYF (fhEn Γ)) (hΓ : fhOk fhYF 1 cX1_bestTelling 6 (some .int) Γ) (hd : 3 ≤ fhD Γ)   (σ : fhM) (o : Int32) (h : f_X1_bestTelling σ = some o) (hk : (fun o => fhRet Γ (some (.int o)) σ) o) : fhW fhYF Γ 0 [(0, .ref 76)] [] σ := by
  unfold f_X1_bestTelling at h
  refine fhW.blk fhPF fhLL hΓ [(.iconst 0, 0), (.istore_n 1, 0), (.sipush 1025, 1025), (.istore_n 2, 0), (.iconst 0, 0), (.istore_n 3, 0)] (pc' := 8) (lv' := [(3, .int (0 : Int32)), (2, .int (1025 : Int32)), (1, .int (0 : Int32)), (0, .ref 76)]) (st' := []) (σ' := σ) (by decide +kernel) rfl rfl rfl ?_
  refine fhW.sub (lv' := [(0, .ref 76), (1, .int (0 : Int32)), (2, .int (1025 : Int32)), (3, .int (0 : Int32))]) [3, 2, 1, 0] rfl ?_
  exact fhlp_ok (W := (fun x => fhW fhYF Γ 8 [(0, .ref 76), (1, .int x.1), (2, .int x.2.1), (3, .int x.2.2)] [] σ)) (B := (fun o => fhRet Γ (some (.int o)) σ)) (fun x o h hk => L_X1_bestTelling_8 hE hΓ hd x.1 x.2.1 x.2.2 σ o h hk) ((0 : Int32), (1025 : Int32), (0 : Int32)) _ h hk
set_option maxRecDepth 100000 in
theorem T_X1_bestTelling {E : fhE} {d : Nat} (hE : fhEok fhYF E) (hd : 3 ≤ d)   (σ : fhM) {o : Int32} (h : f_X1_bestTelling σ = some o) : fhC fhYF E d miX1_bestTelling [.ref 76] σ (some (.int o)) σ := by
  refine fhC.of (y := yX1_bestTelling) (cc := cX1_bestTelling) (nL := 6) (ret := (some .int)) 1 rfl (by decide +kernel) (Nat.le_of_ble_eq_true rfl) ?_
  intro Γ hΓ hR hD hEn
  subst hD; subst hEn
  exact L_X1_bestTelling_E hE hΓ hd   σ _ h hR
set_option maxRecDepth 100000 in
set_option maxHeartbeats 4000000 in
theorem L_X11_tells_E {Γ : fhX} (hE : fhEok fhYF (fhEn Γ)) (hΓ : fhOk fhYF 11 cX11_tells 3 (some .int) Γ) (hd : 6 ≤ fhD Γ) (v1 : Int32)  (σ : fhM) (o : Int32 × fhM) (h : f_X11_tells v1 σ = some o) (hk : (fun o => fhRet Γ (some (.int o.1)) o.2) o) : fhW fhYF Γ 0 [(0, .ref 0), (1, .int v1)] [] σ := by
  unfold f_X11_tells at h
  refine fhW.blk fhPF fhLL hΓ [(.aload_n 0, 0), (.getfield 63, 0), (.getfield 166, 0)] (pc' := 7) (lv' := [(0, .ref 0), (1, .int v1)]) (st' := [.int (σ.1 39 9)]) (σ' := σ) (by decide +kernel) rfl rfl rfl ?_
  refine fhW.z_eq hΓ (tgt := 19) (show fhbk _ _ (.ifCond .eq (12)) _ = true by decide +kernel) (fun hc => ?_) (fun hc => ?_)
  · rw [if_pos hc] at h
    refine fhW.blk fhPF fhLL hΓ [(.iconst (-1), -1)] (pc' := 20) (lv' := [(0, .ref 0), (1, .int v1)]) (st' := [.int (-1 : Int32)]) (σ' := σ) (by decide +kernel) rfl rfl rfl ?_
    have e9 := Option.some.inj h
    subst e9
    exact fhW.iret hΓ (by decide +kernel) hk
  · rw [if_neg hc] at h
    refine fhW.blk fhPF fhLL hΓ [(.iload_n 1, 0)] (pc' := 11) (lv' := [(0, .ref 0), (1, .int v1)]) (st' := [.int v1]) (σ' := σ) (by decide +kernel) rfl rfl rfl ?_
    refine fhW.z_lt hΓ (tgt := 19) (show fhbk _ _ (.ifCond .lt (8)) _ = true by decide +kernel) (fun hc => ?_) (fun hc => ?_)
    · rw [if_pos hc] at h
      refine fhW.blk fhPF fhLL hΓ [(.iconst (-1), -1)] (pc' := 20) (lv' := [(0, .ref 0), (1, .int v1)]) (st' := [.int (-1 : Int32)]) (σ' := σ) (by decide +kernel) rfl rfl rfl ?_
      have e9 := Option.some.inj h
      subst e9
      exact fhW.iret hΓ (by decide +kernel) hk
    · rw [if_neg hc] at h
      refine fhW.blk fhPF fhLL hΓ [(.iload_n 1, 0), (.iconst 2, 2)] (pc' := 16) (lv' := [(0, .ref 0), (1, .int v1)]) (st' := [.int (2 : Int32), .int v1]) (σ' := σ) (by decide +kernel) rfl rfl rfl ?_
      refine fhW.i_le hΓ (tgt := 21) (show fhbk _ _ (.if_icmp .le (5)) _ = true by decide +kernel) (fun hc => ?_) (fun hc => ?_)
      · rw [if_pos hc] at h
        refine fhW.blk fhPF fhLL hΓ [(.aload_n 0, 0), (.getfield 79, 0)] (pc' := 25) (lv' := [(0, .ref 0), (1, .int v1)]) (st' := [.ref 76]) (σ' := σ) (by decide +kernel) rfl rfl rfl ?_
        obtain ⟨q1, hb1, h⟩ := Option.bind_eq_some_iff.mp h
        refine fhW.callv hΓ mvX1_findFitting ml_11_300 (t := 76) (ci := 1) (av := []) (rest := []) (r := none) (σ' := q1) (T_X1_findFitting (E := fhEn Γ) (d := fhD Γ - 1) hE (by omega) σ hb1) (by omega) (by decide +kernel) rfl rfl rfl (Nat.le_of_ble_eq_true rfl) rfl ?_
        show fhW fhYF Γ 28 [(0, .ref 0), (1, .int v1)] [] q1
        refine fhW.blk fhPF fhLL hΓ [(.aload_n 0, 0), (.getfield 79, 0), (.getfield 303, 0)] (pc' := 35) (lv' := [(0, .ref 0), (1, .int v1)]) (st' := [.int (q1.1 76 12)]) (σ' := q1) (by decide +kernel) rfl rfl rfl ?_
        refine fhW.z_ne hΓ (tgt := 40) (show fhbk _ _ (.ifCond .ne (5)) _ = true by decide +kernel) (fun hc => ?_) (fun hc => ?_)
        · rw [if_neg hc] at h
          refine fhW.blk fhPF fhLL hΓ [(.aload_n 0, 0), (.getfield 79, 0)] (pc' := 44) (lv' := [(0, .ref 0), (1, .int v1)]) (st' := [.ref 76]) (σ' := q1) (by decide +kernel) rfl rfl rfl ?_
          obtain ⟨q2, hb2, h⟩ := Option.bind_eq_some_iff.mp h
          refine fhW.callv hΓ mvX1_bestTelling ml_11_312 (t := 76) (ci := 1) (av := []) (rest := []) (r := (some (.int q2))) (σ' := q1) (T_X1_bestTelling (E := fhEn Γ) (d := fhD Γ - 1) hE (by omega) q1 hb2) (by omega) (by decide +kernel) rfl rfl rfl (Nat.le_of_ble_eq_true rfl) rfl ?_
          show fhW fhYF Γ 47 [(0, .ref 0), (1, .int v1)] [.int q2] q1
          refine fhW.blk fhPF fhLL hΓ [(.istore_n 2, 0), (.iload_n 1, 0)] (pc' := 49) (lv' := [(2, .int q2), (0, .ref 0), (1, .int v1)]) (st' := [.int v1]) (σ' := q1) (by decide +kernel) rfl rfl rfl ?_
          refine fhW.lsw hΓ (dflt := 35) (ps := #[(0, 27), (1, 31)]) (len := 27) (td := 84) [(0, 76), (1, 80)] (by decide +kernel) ?_
          refine fhsw_c (fun hc => ?_) (fun hc => ?_)
          · rw [if_pos hc] at h
            refine fhW.blk fhPF fhLL hΓ [(.iload_n 2, 0), (.iconst 5, 5), (.idiv, 0)] (pc' := 79) (lv' := [(2, .int q2), (0, .ref 0), (1, .int v1)]) (st' := [.int (q2 / (5 : Int32))]) (σ' := q1) (by decide +kernel) rfl rfl rfl ?_
            have e9 := Option.some.inj h
            subst e9
            exact fhW.iret hΓ (by decide +kernel) hk
          rw [if_neg hc] at h
          refine fhsw_c (fun hc => ?_) (fun hc => ?_)
          · rw [if_pos hc] at h
            refine fhW.blk fhPF fhLL hΓ [(.iload_n 2, 0), (.iconst 5, 5), (.irem, 0)] (pc' := 83) (lv' := [(2, .int q2), (0, .ref 0), (1, .int v1)]) (st' := [.int (fhrem q2 (5 : Int32))]) (σ' := q1) (by decide +kernel) rfl rfl rfl ?_
            have e9 := Option.some.inj h
            subst e9
            exact fhW.iret hΓ (by decide +kernel) hk
          rw [if_neg hc] at h
          refine fhsw_n ?_
          refine fhW.blk fhPF fhLL hΓ [(.aload_n 0, 0), (.getfield 79, 0), (.iload_n 2, 0), (.iconst 5, 5), (.idiv, 0), (.iload_n 2, 0), (.iconst 5, 5), (.irem, 0)] (pc' := 94) (lv' := [(2, .int q2), (0, .ref 0), (1, .int v1)]) (st' := [.int (fhrem q2 (5 : Int32)), .int (q2 / (5 : Int32)), .ref 76]) (σ' := q1) (by decide +kernel) rfl rfl rfl ?_
          obtain ⟨q3, hb3, h⟩ := Option.bind_eq_some_iff.mp h
          refine fhW.callv hΓ mvX1_mostLeft ml_11_315 (t := 76) (ci := 1) (av := [.int (q2 / (5 : Int32)), .int (fhrem q2 (5 : Int32))]) (rest := []) (r := (some (.int q3))) (σ' := q1) (T_X1_mostLeft (E := fhEn Γ) (d := fhD Γ - 1) hE (by omega) (q2 / (5 : Int32)) (fhrem q2 (5 : Int32)) q1 hb3) (by omega) (by decide +kernel) rfl rfl rfl (Nat.le_of_ble_eq_true rfl) rfl ?_
          show fhW fhYF Γ 97 [(2, .int q2), (0, .ref 0), (1, .int v1)] [.int q3] q1
          have e9 := Option.some.inj h
          subst e9
          exact fhW.iret hΓ (by decide +kernel) hk
        · rw [if_pos hc] at h
          refine fhW.blk fhPF fhLL hΓ [(.iconst (-1), -1)] (pc' := 39) (lv' := [(0, .ref 0), (1, .int v1)]) (st' := [.int (-1 : Int32)]) (σ' := q1) (by decide +kernel) rfl rfl rfl ?_
          have e9 := Option.some.inj h
          subst e9
          exact fhW.iret hΓ (by decide +kernel) hk
      · rw [if_neg hc] at h
        refine fhW.blk fhPF fhLL hΓ [(.iconst (-1), -1)] (pc' := 20) (lv' := [(0, .ref 0), (1, .int v1)]) (st' := [.int (-1 : Int32)]) (σ' := σ) (by decide +kernel) rfl rfl rfl ?_
        have e9 := Option.some.inj h
        subst e9
        exact fhW.iret hΓ (by decide +kernel) hk
set_option maxRecDepth 100000 in
theorem T_X11_tells {E : fhE} {d : Nat} (hE : fhEok fhYF E) (hd : 6 ≤ d) (v1 : Int32)  (σ : fhM) {o : Int32 × fhM} (h : f_X11_tells v1 σ = some o) : fhC fhYF E d miX11_tells [.ref 0, .int v1] σ (some (.int o.1)) o.2 := by
  refine fhC.of (y := yX11_tells) (cc := cX11_tells) (nL := 3) (ret := (some .int)) 11 rfl (by decide +kernel) (Nat.le_of_ble_eq_true rfl) ?_
  intro Γ hΓ hR hD hEn
  subst hD; subst hEn
  exact L_X11_tells_E hE hΓ hd v1  σ _ h hR
set_option maxRecDepth 100000 in
set_option maxHeartbeats 4000000 in
theorem L_X6_save_75 {Γ : fhX} (hE : fhEok fhYF (fhEn Γ)) (hΓ : fhOk fhYF 6 cX6_save 6 none Γ) (hd : 1 ≤ fhD Γ) (v2 : Int32) (v3 : Int32)  (σ : fhM) (o : (Int32 × fhM) ⊕ (fhM)) (h : f_X6_save_75 v2 v3 σ = some o) (hk : (fhK (fun x => fhW fhYF Γ 75 [(0, .ref 93), (1, .ref 56), (2, .int v2), (3, .int x.1)] [] x.2) (fun o => fhRet Γ none o)) o) : fhW fhYF Γ 75 [(0, .ref 93), (1, .ref 56), (2, .int v2), (3, .int v3)] [] σ := by
  unfold f_X6_save_75 at h
  refine fhW.blk fhPF fhLL hΓ [(.iload_n 3, 0), (.aload_n 1, 0), (.getfield 59, 0)] (pc' := 80) (lv' := [(0, .ref 93), (1, .ref 56), (2, .int v2), (3, .int v3)]) (st' := [.int (σ.1 56 8), .int v3]) (σ' := σ) (by decide +kernel) rfl rfl rfl ?_
  refine fhW.i_ge hΓ (tgt := 135) (show fhbk _ _ (.if_icmp .ge (55)) _ = true by decide +kernel) (fun hc => ?_) (fun hc => ?_)
  · rw [if_pos hc] at h
    refine fhW.blk fhPF fhLL hΓ [(.aload_n 0, 0), (.aload_n 0, 0), (.getfield 27, 0), (.iconst 1, 1), (.iadd, 0), (.bipush 20, 20), (.irem, 0), (.putfield 27, 0), (.aload_n 0, 0), (.aload_n 0, 0), (.getfield 30, 0), (.iconst 1, 1), (.iadd, 0), (.bipush 20, 20)] (pc' := 157) (lv' := [(0, .ref 93), (1, .ref 56), (2, .int v2), (3, .int v3)]) (st' := [.int (20 : Int32), .int ((σ.1 93 4) + (1 : Int32)), .ref 93]) (σ' := (fhI σ 93 3 (fhrem ((σ.1 93 3) + (1 : Int32)) (20 : Int32)))) (by decide +kernel) rfl rfl rfl ?_
    refine fhW.calls hΓ msJ9_min_7cf53 ml_6_37 (av := [.int ((σ.1 93 4) + (1 : Int32)), .int (20 : Int32)]) (rest := [.ref 93]) (r := (some (.int (f_J9_min_7cf53 ((σ.1 93 4) + (1 : Int32)) (20 : Int32) (fhI σ 93 3 (fhrem ((σ.1 93 3) + (1 : Int32)) (20 : Int32))))))) (σ' := (fhI σ 93 3 (fhrem ((σ.1 93 3) + (1 : Int32)) (20 : Int32)))) (T_J9_min_7cf53 (E := fhEn Γ) (d := fhD Γ - 1) hE (by omega) ((σ.1 93 4) + (1 : Int32)) (20 : Int32) (fhI σ 93 3 (fhrem ((σ.1 93 3) + (1 : Int32)) (20 : Int32)))) (by omega) (by decide +kernel) rfl (Nat.le_of_ble_eq_true rfl) rfl ?_
    show fhW fhYF Γ 160 [(0, .ref 93), (1, .ref 56), (2, .int v2), (3, .int v3)] [.int (f_J9_min_7cf53 ((σ.1 93 4) + (1 : Int32)) (20 : Int32) (fhI σ 93 3 (fhrem ((σ.1 93 3) + (1 : Int32)) (20 : Int32)))), .ref 93] (fhI σ 93 3 (fhrem ((σ.1 93 3) + (1 : Int32)) (20 : Int32)))
    refine fhW.blk fhPF fhLL hΓ [(.putfield 30, 0)] (pc' := 163) (lv' := [(0, .ref 93), (1, .ref 56), (2, .int v2), (3, .int v3)]) (st' := []) (σ' := (fhI (fhI σ 93 3 (fhrem ((σ.1 93 3) + (1 : Int32)) (20 : Int32))) 93 4 (f_J9_min_7cf53 ((σ.1 93 4) + (1 : Int32)) (20 : Int32) (fhI σ 93 3 (fhrem ((σ.1 93 3) + (1 : Int32)) (20 : Int32)))))) (by decide +kernel) rfl rfl rfl ?_
    have e9 := Option.some.inj h
    subst e9
    exact fhW.vret hΓ (by decide +kernel) hk
  · rw [if_neg hc] at h
    refine fhW.blk fhPF fhLL hΓ [(.aload_n 1, 0), (.getfield 62, 0), (.iload_n 3, 0)] (pc' := 88) (lv' := [(0, .ref 93), (1, .ref 56), (2, .int v2), (3, .int v3)]) (st' := [.int v3, .ref 72]) (σ' := σ) (by decide +kernel) rfl rfl rfl ?_
    refine fhW.callv hΓ mvX2_get ml_6_47 (t := 72) (ci := 2) (av := [.int v3]) (rest := []) (r := (some (.int (fcG σ 72 v3)))) (σ' := σ) (T_X2_get (E := fhEn Γ) (d := fhD Γ - 1) hE (by omega) 72 v3 rfl σ) (by omega) (by decide +kernel) rfl rfl rfl (Nat.le_of_ble_eq_true rfl) rfl ?_
    show fhW fhYF Γ 91 [(0, .ref 93), (1, .ref 56), (2, .int v2), (3, .int v3)] [.int (fcG σ 72 v3)] σ
    refine fhW.blk fhPF fhLL hΓ [(.istore 4, 0), (.iload_n 2, 0), (.iconst 3, 3), (.iadd, 0), (.iload 4, 0), (.iconst 5, 5), (.ishr, 0), (.iadd, 0), (.istore 5, 0)] (pc' := 103) (lv' := [(5, .int ((v2 + (3 : Int32)) + ((fcG σ 72 v3) >>> ((5 : Int32) &&& 31)))), (4, .int (fcG σ 72 v3)), (0, .ref 93), (1, .ref 56), (2, .int v2), (3, .int v3)]) (st' := []) (σ' := σ) (by decide +kernel) rfl rfl rfl ?_
    obtain ⟨w5_1, e1, h⟩ := fhlet_elim h
    rw [← e1]
    refine fhW.blk fhPF fhLL hΓ [(.aload_n 0, 0), (.getfield 20, 0), (.iload 5, 0), (.aload_n 0, 0), (.getfield 20, 0), (.iload 5, 0)] (pc' := 115) (lv' := [(5, .int w5_1), (4, .int (fcG σ 72 v3)), (0, .ref 93), (1, .ref 56), (2, .int v2), (3, .int v3)]) (st' := [.int w5_1, .ref 96, .int w5_1, .ref 96]) (σ' := σ) (by decide +kernel) rfl rfl rfl ?_
    refine fhW.callv hΓ mvX2_get ml_6_47 (t := 96) (ci := 2) (av := [.int w5_1]) (rest := [.int w5_1, .ref 96]) (r := (some (.int (fcG σ 96 w5_1)))) (σ' := σ) (T_X2_get (E := fhEn Γ) (d := fhD Γ - 1) hE (by omega) 96 w5_1 rfl σ) (by omega) (by decide +kernel) rfl rfl rfl (Nat.le_of_ble_eq_true rfl) rfl ?_
    show fhW fhYF Γ 118 [(5, .int w5_1), (4, .int (fcG σ 72 v3)), (0, .ref 93), (1, .ref 56), (2, .int v2), (3, .int v3)] [.int (fcG σ 96 w5_1), .int w5_1, .ref 96] σ
    refine fhW.blk fhPF fhLL hΓ [(.iconst 1, 1), (.iload 4, 0), (.bipush 31, 31), (.iand, 0), (.ishl, 0), (.ior, 0)] (pc' := 126) (lv' := [(5, .int w5_1), (4, .int (fcG σ 72 v3)), (0, .ref 93), (1, .ref 56), (2, .int v2), (3, .int v3)]) (st' := [.int ((fcG σ 96 w5_1) ||| ((1 : Int32) <<< (((fcG σ 72 v3) &&& (31 : Int32)) &&& 31))), .int w5_1, .ref 96]) (σ' := σ) (by decide +kernel) rfl rfl rfl ?_
    refine fhW.callv hΓ mvX2_put ml_6_33 (t := 96) (ci := 2) (av := [.int w5_1, .int ((fcG σ 96 w5_1) ||| ((1 : Int32) <<< (((fcG σ 72 v3) &&& (31 : Int32)) &&& 31)))]) (rest := []) (r := none) (σ' := (fcP σ 96 w5_1 ((fcG σ 96 w5_1) ||| ((1 : Int32) <<< (((fcG σ 72 v3) &&& (31 : Int32)) &&& 31))))) (T_X2_put (E := fhEn Γ) (d := fhD Γ - 1) hE (by omega) 96 w5_1 ((fcG σ 96 w5_1) ||| ((1 : Int32) <<< (((fcG σ 72 v3) &&& (31 : Int32)) &&& 31))) rfl σ) (by omega) (by decide +kernel) rfl rfl rfl (Nat.le_of_ble_eq_true rfl) rfl ?_
    show fhW fhYF Γ 129 [(5, .int w5_1), (4, .int (fcG σ 72 v3)), (0, .ref 93), (1, .ref 56), (2, .int v2), (3, .int v3)] [] (fcP σ 96 w5_1 ((fcG σ 96 w5_1) ||| ((1 : Int32) <<< (((fcG σ 72 v3) &&& (31 : Int32)) &&& 31))))
    refine fhW.blk fhPF fhLL hΓ [(.iinc 3 1, 1)] (pc' := 132) (lv' := [(3, .int (v3 + (1 : Int32))), (5, .int w5_1), (4, .int (fcG σ 72 v3)), (0, .ref 93), (1, .ref 56), (2, .int v2)]) (st' := []) (σ' := (fcP σ 96 w5_1 ((fcG σ 96 w5_1) ||| ((1 : Int32) <<< (((fcG σ 72 v3) &&& (31 : Int32)) &&& 31))))) (by decide +kernel) rfl rfl rfl ?_
    refine fhW.goto hΓ (off := (-57)) (tgt := 75) (by decide +kernel) ?_
    refine fhW.sub (lv' := [(0, .ref 93), (1, .ref 56), (2, .int v2), (3, .int (v3 + (1 : Int32)))]) [3, 4, 5, 0] rfl ?_
    have e9 := Option.some.inj h
    subst e9
    exact hk
set_option maxRecDepth 100000 in
set_option maxHeartbeats 4000000 in
theorem L_X6_save_10 {Γ : fhX} (hE : fhEok fhYF (fhEn Γ)) (hΓ : fhOk fhYF 6 cX6_save 6 none Γ) (hd : 1 ≤ fhD Γ) (v2 : Int32) (v3 : Int32)  (σ : fhM) (o : (Int32 × fhM) ⊕ (fhM)) (h : f_X6_save_10 v2 v3 σ = some o) (hk : (fhK (fun x => fhW fhYF Γ 10 [(0, .ref 93), (1, .ref 56), (2, .int v2), (3, .int x.1)] [] x.2) (fun o => fhRet Γ none o)) o) : fhW fhYF Γ 10 [(0, .ref 93), (1, .ref 56), (2, .int v2), (3, .int v3)] [] σ := by
  unfold f_X6_save_10 at h
  refine fhW.blk fhPF fhLL hΓ [(.iload_n 3, 0), (.bipush 35, 35)] (pc' := 13) (lv' := [(0, .ref 93), (1, .ref 56), (2, .int v2), (3, .int v3)]) (st' := [.int (35 : Int32), .int v3]) (σ' := σ) (by decide +kernel) rfl rfl rfl ?_
  refine fhW.i_ge hΓ (tgt := 33) (show fhbk _ _ (.if_icmp .ge (20)) _ = true by decide +kernel) (fun hc => ?_) (fun hc => ?_)
  · rw [if_pos hc] at h
    refine fhW.blk fhPF fhLL hΓ [(.aload_n 0, 0), (.getfield 20, 0), (.iload_n 2, 0), (.aload_n 1, 0), (.getfield 51, 0)] (pc' := 42) (lv' := [(0, .ref 93), (1, .ref 56), (2, .int v2), (3, .int v3)]) (st' := [.int (σ.1 56 9), .int v2, .ref 96]) (σ' := σ) (by decide +kernel) rfl rfl rfl ?_
    refine fhW.callv hΓ mvX2_put ml_6_33 (t := 96) (ci := 2) (av := [.int v2, .int (σ.1 56 9)]) (rest := []) (r := none) (σ' := (fcP σ 96 v2 (σ.1 56 9))) (T_X2_put (E := fhEn Γ) (d := fhD Γ - 1) hE (by omega) 96 v2 (σ.1 56 9) rfl σ) (by omega) (by decide +kernel) rfl rfl rfl (Nat.le_of_ble_eq_true rfl) rfl ?_
    show fhW fhYF Γ 45 [(0, .ref 93), (1, .ref 56), (2, .int v2), (3, .int v3)] [] (fcP σ 96 v2 (σ.1 56 9))
    refine fhW.blk fhPF fhLL hΓ [(.aload_n 0, 0), (.getfield 20, 0), (.iload_n 2, 0), (.iconst 1, 1), (.iadd, 0), (.aload_n 1, 0), (.getfield 56, 0)] (pc' := 56) (lv' := [(0, .ref 93), (1, .ref 56), (2, .int v2), (3, .int v3)]) (st' := [.int (σ.1 56 10), .int (v2 + (1 : Int32)), .ref 96]) (σ' := (fcP σ 96 v2 (σ.1 56 9))) (by decide +kernel) rfl rfl rfl ?_
    refine fhW.callv hΓ mvX2_put ml_6_33 (t := 96) (ci := 2) (av := [.int (v2 + (1 : Int32)), .int (σ.1 56 10)]) (rest := []) (r := none) (σ' := (fcP (fcP σ 96 v2 (σ.1 56 9)) 96 (v2 + (1 : Int32)) (σ.1 56 10))) (T_X2_put (E := fhEn Γ) (d := fhD Γ - 1) hE (by omega) 96 (v2 + (1 : Int32)) (σ.1 56 10) rfl (fcP σ 96 v2 (σ.1 56 9))) (by omega) (by decide +kernel) rfl rfl rfl (Nat.le_of_ble_eq_true rfl) rfl ?_
    show fhW fhYF Γ 59 [(0, .ref 93), (1, .ref 56), (2, .int v2), (3, .int v3)] [] (fcP (fcP σ 96 v2 (σ.1 56 9)) 96 (v2 + (1 : Int32)) (σ.1 56 10))
    refine fhW.blk fhPF fhLL hΓ [(.aload_n 0, 0), (.getfield 20, 0), (.iload_n 2, 0), (.iconst 2, 2), (.iadd, 0), (.aload_n 0, 0), (.getfield 23, 0)] (pc' := 70) (lv' := [(0, .ref 93), (1, .ref 56), (2, .int v2), (3, .int v3)]) (st' := [.int (σ.1 93 1), .int (v2 + (2 : Int32)), .ref 96]) (σ' := (fcP (fcP σ 96 v2 (σ.1 56 9)) 96 (v2 + (1 : Int32)) (σ.1 56 10))) (by decide +kernel) rfl rfl rfl ?_
    refine fhW.callv hΓ mvX2_put ml_6_33 (t := 96) (ci := 2) (av := [.int (v2 + (2 : Int32)), .int (σ.1 93 1)]) (rest := []) (r := none) (σ' := (fcP (fcP (fcP σ 96 v2 (σ.1 56 9)) 96 (v2 + (1 : Int32)) (σ.1 56 10)) 96 (v2 + (2 : Int32)) (σ.1 93 1))) (T_X2_put (E := fhEn Γ) (d := fhD Γ - 1) hE (by omega) 96 (v2 + (2 : Int32)) (σ.1 93 1) rfl (fcP (fcP σ 96 v2 (σ.1 56 9)) 96 (v2 + (1 : Int32)) (σ.1 56 10))) (by omega) (by decide +kernel) rfl rfl rfl (Nat.le_of_ble_eq_true rfl) rfl ?_
    show fhW fhYF Γ 73 [(0, .ref 93), (1, .ref 56), (2, .int v2), (3, .int v3)] [] (fcP (fcP (fcP σ 96 v2 (σ.1 56 9)) 96 (v2 + (1 : Int32)) (σ.1 56 10)) 96 (v2 + (2 : Int32)) (σ.1 93 1))
    refine fhW.blk fhPF fhLL hΓ [(.iconst 0, 0), (.istore_n 3, 0)] (pc' := 75) (lv' := [(3, .int (0 : Int32)), (0, .ref 93), (1, .ref 56), (2, .int v2)]) (st' := []) (σ' := (fcP (fcP (fcP σ 96 v2 (σ.1 56 9)) 96 (v2 + (1 : Int32)) (σ.1 56 10)) 96 (v2 + (2 : Int32)) (σ.1 93 1))) (by decide +kernel) rfl rfl rfl ?_
    refine fhW.sub (lv' := [(0, .ref 93), (1, .ref 56), (2, .int v2), (3, .int (0 : Int32))]) [1, 2, 3, 0] rfl ?_
    obtain ⟨z1, hz, e2⟩ := Option.map_eq_some_iff.mp h
    clear h
    subst e2
    have h := hz
    have hk : (fun o => fhRet Γ none o) z1 := hk
    exact fhlp_ok (W := (fun x => fhW fhYF Γ 75 [(0, .ref 93), (1, .ref 56), (2, .int v2), (3, .int x.1)] [] x.2)) (B := (fun o => fhRet Γ none o)) (fun x o h hk => L_X6_save_75 hE hΓ hd v2 x.1 x.2 o h hk) ((0 : Int32), (fcP (fcP (fcP σ 96 v2 (σ.1 56 9)) 96 (v2 + (1 : Int32)) (σ.1 56 10)) 96 (v2 + (2 : Int32)) (σ.1 93 1))) _ h hk
  · rw [if_neg hc] at h
    refine fhW.blk fhPF fhLL hΓ [(.aload_n 0, 0), (.getfield 20, 0), (.iload_n 2, 0), (.iload_n 3, 0), (.iadd, 0), (.iconst 0, 0)] (pc' := 24) (lv' := [(0, .ref 93), (1, .ref 56), (2, .int v2), (3, .int v3)]) (st' := [.int (0 : Int32), .int (v2 + v3), .ref 96]) (σ' := σ) (by decide +kernel) rfl rfl rfl ?_
    refine fhW.callv hΓ mvX2_put ml_6_33 (t := 96) (ci := 2) (av := [.int (v2 + v3), .int (0 : Int32)]) (rest := []) (r := none) (σ' := (fcP σ 96 (v2 + v3) (0 : Int32))) (T_X2_put (E := fhEn Γ) (d := fhD Γ - 1) hE (by omega) 96 (v2 + v3) (0 : Int32) rfl σ) (by omega) (by decide +kernel) rfl rfl rfl (Nat.le_of_ble_eq_true rfl) rfl ?_
    show fhW fhYF Γ 27 [(0, .ref 93), (1, .ref 56), (2, .int v2), (3, .int v3)] [] (fcP σ 96 (v2 + v3) (0 : Int32))
    refine fhW.blk fhPF fhLL hΓ [(.iinc 3 1, 1)] (pc' := 30) (lv' := [(3, .int (v3 + (1 : Int32))), (0, .ref 93), (1, .ref 56), (2, .int v2)]) (st' := []) (σ' := (fcP σ 96 (v2 + v3) (0 : Int32))) (by decide +kernel) rfl rfl rfl ?_
    refine fhW.goto hΓ (off := (-20)) (tgt := 10) (by decide +kernel) ?_
    refine fhW.sub (lv' := [(0, .ref 93), (1, .ref 56), (2, .int v2), (3, .int (v3 + (1 : Int32)))]) [1, 2, 3, 0] rfl ?_
    have e9 := Option.some.inj h
    subst e9
    exact hk
set_option maxRecDepth 100000 in
set_option maxHeartbeats 4000000 in
theorem L_X6_save_E {Γ : fhX} (hE : fhEok fhYF (fhEn Γ)) (hΓ : fhOk fhYF 6 cX6_save 6 none Γ) (hd : 1 ≤ fhD Γ)   (σ : fhM) (o : fhM) (h : f_X6_save σ = some o) (hk : (fun o => fhRet Γ none o) o) : fhW fhYF Γ 0 [(0, .ref 93), (1, .ref 56)] [] σ := by
  unfold f_X6_save at h
  refine fhW.blk fhPF fhLL hΓ [(.aload_n 0, 0), (.getfield 27, 0), (.bipush 35, 35), (.imul, 0), (.istore_n 2, 0), (.iconst 0, 0), (.istore_n 3, 0)] (pc' := 10) (lv' := [(3, .int (0 : Int32)), (2, .int ((σ.1 93 3) * (35 : Int32))), (0, .ref 93), (1, .ref 56)]) (st' := []) (σ' := σ) (by decide +kernel) rfl rfl rfl ?_
  refine fhW.sub (lv' := [(0, .ref 93), (1, .ref 56), (2, .int ((σ.1 93 3) * (35 : Int32))), (3, .int (0 : Int32))]) [2, 3, 1, 0] rfl ?_
  exact fhlp_ok (W := (fun x => fhW fhYF Γ 10 [(0, .ref 93), (1, .ref 56), (2, .int ((σ.1 93 3) * (35 : Int32))), (3, .int x.1)] [] x.2)) (B := (fun o => fhRet Γ none o)) (fun x o h hk => L_X6_save_10 hE hΓ hd ((σ.1 93 3) * (35 : Int32)) x.1 x.2 o h hk) ((0 : Int32), σ) _ h hk
set_option maxRecDepth 100000 in
theorem T_X6_save {E : fhE} {d : Nat} (hE : fhEok fhYF E) (hd : 1 ≤ d)   (σ : fhM) {o : fhM} (h : f_X6_save σ = some o) : fhC fhYF E d miX6_save [.ref 93, .ref 56] σ none o := by
  refine fhC.of (y := yX6_save) (cc := cX6_save) (nL := 6) (ret := none) 6 rfl (by decide +kernel) (Nat.le_of_ble_eq_true rfl) ?_
  intro Γ hΓ hR hD hEn
  subst hD; subst hEn
  exact L_X6_save_E hE hΓ hd   σ _ h hR
set_option maxRecDepth 100000 in
set_option maxHeartbeats 4000000 in
theorem L_X4_keepAlike_63 {Γ : fhX} (hE : fhEok fhYF (fhEn Γ)) (hΓ : fhOk fhYF 4 cX4_keepAlike 7 none Γ) (hd : 4 ≤ fhD Γ) (v1 : Nat) (v2 : Int32) (v3 : Int32) (v4 : Int32) (v5 : Int32) (hv1 : fhiC v1 = true) (σ : fhM) (o : (Int32 × Int32 × fhM) ⊕ (fhM)) (h : f_X4_keepAlike_63 v1 v2 v3 v4 v5 σ = some o) (hk : (fhK (fun x => fhW fhYF Γ 17 [(0, .ref 56), (1, .ref v1), (2, .int v2), (3, .int v3), (4, .int x.1), (5, .int x.2.1)] [] x.2.2) (fun o => fhRet Γ none o)) o) : fhW fhYF Γ 63 [(0, .ref 56), (1, .ref v1), (2, .int v2), (3, .int v3), (4, .int v4), (5, .int v5)] [] σ := by
  unfold f_X4_keepAlike_63 at h
  refine fhW.blk fhPF fhLL hΓ [(.iinc 5 1, 1)] (pc' := 66) (lv' := [(5, .int (v5 + (1 : Int32))), (0, .ref 56), (1, .ref v1), (2, .int v2), (3, .int v3), (4, .int v4)]) (st' := []) (σ' := σ) (by decide +kernel) rfl rfl rfl ?_
  refine fhW.goto hΓ (off := (-49)) (tgt := 17) (by decide +kernel) ?_
  refine fhW.sub (lv' := [(0, .ref 56), (1, .ref v1), (2, .int v2), (3, .int v3), (4, .int v4), (5, .int (v5 + (1 : Int32)))]) [1, 2, 3, 4, 5, 0] rfl ?_
  have e9 := Option.some.inj h
  subst e9
  exact hk
set_option maxRecDepth 100000 in
set_option maxHeartbeats 4000000 in
theorem L_X4_keepAlike_17 {Γ : fhX} (hE : fhEok fhYF (fhEn Γ)) (hΓ : fhOk fhYF 4 cX4_keepAlike 7 none Γ) (hd : 4 ≤ fhD Γ) (v1 : Nat) (v2 : Int32) (v3 : Int32) (v4 : Int32) (v5 : Int32) (hv1 : fhiC v1 = true) (σ : fhM) (o : (Int32 × Int32 × fhM) ⊕ (fhM)) (h : f_X4_keepAlike_17 v1 v2 v3 v4 v5 σ = some o) (hk : (fhK (fun x => fhW fhYF Γ 17 [(0, .ref 56), (1, .ref v1), (2, .int v2), (3, .int v3), (4, .int x.1), (5, .int x.2.1)] [] x.2.2) (fun o => fhRet Γ none o)) o) : fhW fhYF Γ 17 [(0, .ref 56), (1, .ref v1), (2, .int v2), (3, .int v3), (4, .int v4), (5, .int v5)] [] σ := by
  unfold f_X4_keepAlike_17 at h
  refine fhW.blk fhPF fhLL hΓ [(.iload 5, 0), (.aload_n 0, 0), (.getfield 63, 0)] (pc' := 23) (lv' := [(0, .ref 56), (1, .ref v1), (2, .int v2), (3, .int v3), (4, .int v4), (5, .int v5)]) (st' := [.int (σ.1 56 8), .int v5]) (σ' := σ) (by decide +kernel) rfl rfl rfl ?_
  refine fhW.i_ge hΓ (tgt := 69) (show fhbk _ _ (.if_icmp .ge (46)) _ = true by decide +kernel) (fun hc => ?_) (fun hc => ?_)
  · rw [if_pos hc] at h
    refine fhW.blk fhPF fhLL hΓ [(.aload_n 0, 0), (.iload 4, 0), (.putfield 63, 0), (.aload_n 0, 0)] (pc' := 76) (lv' := [(0, .ref 56), (1, .ref v1), (2, .int v2), (3, .int v3), (4, .int v4), (5, .int v5)]) (st' := [.ref 56]) (σ' := (fhI σ 56 8 v4)) (by decide +kernel) rfl rfl rfl ?_
    obtain ⟨q1, hb1, h⟩ := Option.bind_eq_some_iff.mp h
    refine fhW.callv hΓ mvX4_settle ml_4_72 (t := 56) (ci := 4) (av := []) (rest := []) (r := none) (σ' := q1) (T_X4_settle (E := fhEn Γ) (d := fhD Γ - 1) hE (by omega) (fhI σ 56 8 v4) hb1) (by omega) (by decide +kernel) rfl rfl rfl (Nat.le_of_ble_eq_true rfl) rfl ?_
    show fhW fhYF Γ 79 [(0, .ref 56), (1, .ref v1), (2, .int v2), (3, .int v3), (4, .int v4), (5, .int v5)] [] q1
    have e9 := Option.some.inj h
    subst e9
    exact fhW.vret hΓ (by decide +kernel) hk
  · rw [if_neg hc] at h
    refine fhW.blk fhPF fhLL hΓ [(.aload_n 0, 0), (.getfield 36, 0), (.iload 5, 0)] (pc' := 32) (lv' := [(0, .ref 56), (1, .ref v1), (2, .int v2), (3, .int v3), (4, .int v4), (5, .int v5)]) (st' := [.int v5, .ref 72]) (σ' := σ) (by decide +kernel) rfl rfl rfl ?_
    refine fhW.callv hΓ mvX2_get ml_4_55 (t := 72) (ci := 2) (av := [.int v5]) (rest := []) (r := (some (.int (fcG σ 72 v5)))) (σ' := σ) (T_X2_get (E := fhEn Γ) (d := fhD Γ - 1) hE (by omega) 72 v5 rfl σ) (by omega) (by decide +kernel) rfl rfl rfl (Nat.le_of_ble_eq_true rfl) rfl ?_
    show fhW fhYF Γ 35 [(0, .ref 56), (1, .ref v1), (2, .int v2), (3, .int v3), (4, .int v4), (5, .int v5)] [.int (fcG σ 72 v5)] σ
    refine fhW.blk fhPF fhLL hΓ [(.istore 6, 0), (.aload_n 1, 0), (.iload 6, 0)] (pc' := 40) (lv' := [(6, .int (fcG σ 72 v5)), (0, .ref 56), (1, .ref v1), (2, .int v2), (3, .int v3), (4, .int v4), (5, .int v5)]) (st' := [.int (fcG σ 72 v5), .ref v1]) (σ' := σ) (by decide +kernel) rfl rfl rfl ?_
    refine fhW.callv hΓ mvX2_get ml_4_55 (t := v1) (ci := 2) (av := [.int (fcG σ 72 v5)]) (rest := []) (r := (some (.int (fcG σ v1 (fcG σ 72 v5))))) (σ' := σ) (T_X2_get (E := fhEn Γ) (d := fhD Γ - 1) hE (by omega) v1 (fcG σ 72 v5) hv1 σ) (by omega) (by decide +kernel) rfl (fhiC_g hv1) rfl (Nat.le_of_ble_eq_true rfl) rfl ?_
    show fhW fhYF Γ 43 [(6, .int (fcG σ 72 v5)), (0, .ref 56), (1, .ref v1), (2, .int v2), (3, .int v3), (4, .int v4), (5, .int v5)] [.int (fcG σ v1 (fcG σ 72 v5))] σ
    refine fhW.blk fhPF fhLL hΓ [(.iload_n 2, 0), (.iand, 0), (.iload_n 3, 0)] (pc' := 46) (lv' := [(6, .int (fcG σ 72 v5)), (0, .ref 56), (1, .ref v1), (2, .int v2), (3, .int v3), (4, .int v4), (5, .int v5)]) (st' := [.int v3, .int ((fcG σ v1 (fcG σ 72 v5)) &&& v2)]) (σ' := σ) (by decide +kernel) rfl rfl rfl ?_
    refine fhW.i_ne hΓ (tgt := 63) (show fhbk _ _ (.if_icmp .ne (17)) _ = true by decide +kernel) (fun hc => ?_) (fun hc => ?_)
    · rw [if_neg hc] at h
      refine fhW.sub (lv' := [(0, .ref 56), (1, .ref v1), (2, .int v2), (3, .int v3), (4, .int v4), (5, .int v5)]) [1, 2, 3, 4, 5, 6] rfl ?_
      exact L_X4_keepAlike_63 hE hΓ hd v1 v2 v3 v4 v5 hv1 σ _ h hk
    · rw [if_pos hc] at h
      refine fhW.blk fhPF fhLL hΓ [(.aload_n 0, 0), (.getfield 36, 0), (.iload 4, 0), (.iload 6, 0)] (pc' := 57) (lv' := [(6, .int (fcG σ 72 v5)), (0, .ref 56), (1, .ref v1), (2, .int v2), (3, .int v3), (4, .int v4), (5, .int v5)]) (st' := [.int (fcG σ 72 v5), .int v4, .ref 72]) (σ' := σ) (by decide +kernel) rfl rfl rfl ?_
      refine fhW.callv hΓ mvX2_put ml_4_59 (t := 72) (ci := 2) (av := [.int v4, .int (fcG σ 72 v5)]) (rest := []) (r := none) (σ' := (fcP σ 72 v4 (fcG σ 72 v5))) (T_X2_put (E := fhEn Γ) (d := fhD Γ - 1) hE (by omega) 72 v4 (fcG σ 72 v5) rfl σ) (by omega) (by decide +kernel) rfl rfl rfl (Nat.le_of_ble_eq_true rfl) rfl ?_
      show fhW fhYF Γ 60 [(6, .int (fcG σ 72 v5)), (0, .ref 56), (1, .ref v1), (2, .int v2), (3, .int v3), (4, .int v4), (5, .int v5)] [] (fcP σ 72 v4 (fcG σ 72 v5))
      refine fhW.blk fhPF fhLL hΓ [(.iinc 4 1, 1)] (pc' := 63) (lv' := [(4, .int (v4 + (1 : Int32))), (6, .int (fcG σ 72 v5)), (0, .ref 56), (1, .ref v1), (2, .int v2), (3, .int v3), (5, .int v5)]) (st' := []) (σ' := (fcP σ 72 v4 (fcG σ 72 v5))) (by decide +kernel) rfl rfl rfl ?_
      refine fhW.sub (lv' := [(0, .ref 56), (1, .ref v1), (2, .int v2), (3, .int v3), (4, .int (v4 + (1 : Int32))), (5, .int v5)]) [2, 3, 4, 5, 0, 6] rfl ?_
      exact L_X4_keepAlike_63 hE hΓ hd v1 v2 v3 (v4 + (1 : Int32)) v5 hv1 (fcP σ 72 v4 (fcG σ 72 v5)) _ h hk
set_option maxRecDepth 100000 in
set_option maxHeartbeats 4000000 in
theorem L_X4_keepAlike_E {Γ : fhX} (hE : fhEok fhYF (fhEn Γ)) (hΓ : fhOk fhYF 4 cX4_keepAlike 7 none Γ) (hd : 4 ≤ fhD Γ) (v1 : Nat) (v2 : Int32) (hv1 : fhiC v1 = true) (σ : fhM) (o : fhM) (h : f_X4_keepAlike v1 v2 σ = some o) (hk : (fun o => fhRet Γ none o) o) : fhW fhYF Γ 0 [(0, .ref 56), (1, .ref v1), (2, .int v2)] [] σ := by
  unfold f_X4_keepAlike at h
  refine fhW.blk fhPF fhLL hΓ [(.aload_n 1, 0), (.aload_n 0, 0), (.getfield 69, 0)] (pc' := 5) (lv' := [(0, .ref 56), (1, .ref v1), (2, .int v2)]) (st' := [.int (σ.1 56 9), .ref v1]) (σ' := σ) (by decide +kernel) rfl rfl rfl ?_
  refine fhW.callv hΓ mvX2_get ml_4_55 (t := v1) (ci := 2) (av := [.int (σ.1 56 9)]) (rest := []) (r := (some (.int (fcG σ v1 (σ.1 56 9))))) (σ' := σ) (T_X2_get (E := fhEn Γ) (d := fhD Γ - 1) hE (by omega) v1 (σ.1 56 9) hv1 σ) (by omega) (by decide +kernel) rfl (fhiC_g hv1) rfl (Nat.le_of_ble_eq_true rfl) rfl ?_
  show fhW fhYF Γ 8 [(0, .ref 56), (1, .ref v1), (2, .int v2)] [.int (fcG σ v1 (σ.1 56 9))] σ
  refine fhW.blk fhPF fhLL hΓ [(.iload_n 2, 0), (.iand, 0), (.istore_n 3, 0), (.iconst 0, 0), (.istore 4, 0), (.iconst 0, 0), (.istore 5, 0)] (pc' := 17) (lv' := [(5, .int (0 : Int32)), (4, .int (0 : Int32)), (3, .int ((fcG σ v1 (σ.1 56 9)) &&& v2)), (0, .ref 56), (1, .ref v1), (2, .int v2)]) (st' := []) (σ' := σ) (by decide +kernel) rfl rfl rfl ?_
  refine fhW.sub (lv' := [(0, .ref 56), (1, .ref v1), (2, .int v2), (3, .int ((fcG σ v1 (σ.1 56 9)) &&& v2)), (4, .int (0 : Int32)), (5, .int (0 : Int32))]) [3, 4, 5, 2, 1, 0] rfl ?_
  exact fhlp_ok (W := (fun x => fhW fhYF Γ 17 [(0, .ref 56), (1, .ref v1), (2, .int v2), (3, .int ((fcG σ v1 (σ.1 56 9)) &&& v2)), (4, .int x.1), (5, .int x.2.1)] [] x.2.2)) (B := (fun o => fhRet Γ none o)) (fun x o h hk => L_X4_keepAlike_17 hE hΓ hd v1 v2 ((fcG σ v1 (σ.1 56 9)) &&& v2) x.1 x.2.1 hv1 x.2.2 o h hk) ((0 : Int32), (0 : Int32), σ) _ h hk
set_option maxRecDepth 100000 in
theorem T_X4_keepAlike {E : fhE} {d : Nat} (hE : fhEok fhYF E) (hd : 4 ≤ d) (v1 : Nat) (v2 : Int32) (hv1 : fhiC v1 = true) (σ : fhM) {o : fhM} (h : f_X4_keepAlike v1 v2 σ = some o) : fhC fhYF E d miX4_keepAlike [.ref 56, .ref v1, .int v2] σ none o := by
  refine fhC.of (y := yX4_keepAlike) (cc := cX4_keepAlike) (nL := 7) (ret := none) 4 rfl (by decide +kernel) (Nat.le_of_ble_eq_true rfl) ?_
  intro Γ hΓ hR hD hEn
  subst hD; subst hEn
  exact L_X4_keepAlike_E hE hΓ hd v1 v2 hv1 σ _ h hR
set_option maxRecDepth 100000 in
set_option maxHeartbeats 4000000 in
theorem L_X6_write_E {Γ : fhX} (hE : fhEok fhYF (fhEn Γ)) (hΓ : fhOk fhYF 6 cX6_write 6 none Γ) (hd : 1 ≤ fhD Γ) (v1 : Int32) (v2 : Int32) (v3 : Int32) (v4 : Int32)  (σ : fhM) (o : fhM) (h : f_X6_write v1 v2 v3 v4 σ = o) (hk : (fun o => fhRet Γ none o) o) : fhW fhYF Γ 0 [(0, .ref 93), (1, .int v1), (2, .int v2), (3, .int v3), (4, .int v4)] [] σ := by
  unfold f_X6_write at h
  refine fhW.blk fhPF fhLL hΓ [(.iconst 4, 4), (.aload_n 0, 0), (.getfield 23, 0), (.sipush 511, 511), (.iand, 0), (.imul, 0), (.istore 5, 0), (.aload_n 0, 0), (.getfield 16, 0), (.iload 5, 0), (.iload_n 1, 0)] (pc' := 19) (lv' := [(5, .int ((4 : Int32) * ((σ.1 93 1) &&& (511 : Int32)))), (0, .ref 93), (1, .int v1), (2, .int v2), (3, .int v3), (4, .int v4)]) (st' := [.int v1, .int ((4 : Int32) * ((σ.1 93 1) &&& (511 : Int32))), .ref 94]) (σ' := σ) (by decide +kernel) rfl rfl rfl ?_
  refine fhW.callv hΓ mvX2_put ml_6_33 (t := 94) (ci := 2) (av := [.int ((4 : Int32) * ((σ.1 93 1) &&& (511 : Int32))), .int v1]) (rest := []) (r := none) (σ' := (fcP σ 94 ((4 : Int32) * ((σ.1 93 1) &&& (511 : Int32))) v1)) (T_X2_put (E := fhEn Γ) (d := fhD Γ - 1) hE (by omega) 94 ((4 : Int32) * ((σ.1 93 1) &&& (511 : Int32))) v1 rfl σ) (by omega) (by decide +kernel) rfl rfl rfl (Nat.le_of_ble_eq_true rfl) rfl ?_
  show fhW fhYF Γ 22 [(5, .int ((4 : Int32) * ((σ.1 93 1) &&& (511 : Int32)))), (0, .ref 93), (1, .int v1), (2, .int v2), (3, .int v3), (4, .int v4)] [] (fcP σ 94 ((4 : Int32) * ((σ.1 93 1) &&& (511 : Int32))) v1)
  refine fhW.blk fhPF fhLL hΓ [(.aload_n 0, 0), (.getfield 16, 0), (.iload 5, 0), (.iconst 1, 1), (.iadd, 0), (.iload_n 2, 0)] (pc' := 31) (lv' := [(5, .int ((4 : Int32) * ((σ.1 93 1) &&& (511 : Int32)))), (0, .ref 93), (1, .int v1), (2, .int v2), (3, .int v3), (4, .int v4)]) (st' := [.int v2, .int (((4 : Int32) * ((σ.1 93 1) &&& (511 : Int32))) + (1 : Int32)), .ref 94]) (σ' := (fcP σ 94 ((4 : Int32) * ((σ.1 93 1) &&& (511 : Int32))) v1)) (by decide +kernel) rfl rfl rfl ?_
  refine fhW.callv hΓ mvX2_put ml_6_33 (t := 94) (ci := 2) (av := [.int (((4 : Int32) * ((σ.1 93 1) &&& (511 : Int32))) + (1 : Int32)), .int v2]) (rest := []) (r := none) (σ' := (fcP (fcP σ 94 ((4 : Int32) * ((σ.1 93 1) &&& (511 : Int32))) v1) 94 (((4 : Int32) * ((σ.1 93 1) &&& (511 : Int32))) + (1 : Int32)) v2)) (T_X2_put (E := fhEn Γ) (d := fhD Γ - 1) hE (by omega) 94 (((4 : Int32) * ((σ.1 93 1) &&& (511 : Int32))) + (1 : Int32)) v2 rfl (fcP σ 94 ((4 : Int32) * ((σ.1 93 1) &&& (511 : Int32))) v1)) (by omega) (by decide +kernel) rfl rfl rfl (Nat.le_of_ble_eq_true rfl) rfl ?_
  show fhW fhYF Γ 34 [(5, .int ((4 : Int32) * ((σ.1 93 1) &&& (511 : Int32)))), (0, .ref 93), (1, .int v1), (2, .int v2), (3, .int v3), (4, .int v4)] [] (fcP (fcP σ 94 ((4 : Int32) * ((σ.1 93 1) &&& (511 : Int32))) v1) 94 (((4 : Int32) * ((σ.1 93 1) &&& (511 : Int32))) + (1 : Int32)) v2)
  refine fhW.blk fhPF fhLL hΓ [(.aload_n 0, 0), (.getfield 16, 0), (.iload 5, 0), (.iconst 2, 2), (.iadd, 0), (.iload_n 3, 0)] (pc' := 43) (lv' := [(5, .int ((4 : Int32) * ((σ.1 93 1) &&& (511 : Int32)))), (0, .ref 93), (1, .int v1), (2, .int v2), (3, .int v3), (4, .int v4)]) (st' := [.int v3, .int (((4 : Int32) * ((σ.1 93 1) &&& (511 : Int32))) + (2 : Int32)), .ref 94]) (σ' := (fcP (fcP σ 94 ((4 : Int32) * ((σ.1 93 1) &&& (511 : Int32))) v1) 94 (((4 : Int32) * ((σ.1 93 1) &&& (511 : Int32))) + (1 : Int32)) v2)) (by decide +kernel) rfl rfl rfl ?_
  refine fhW.callv hΓ mvX2_put ml_6_33 (t := 94) (ci := 2) (av := [.int (((4 : Int32) * ((σ.1 93 1) &&& (511 : Int32))) + (2 : Int32)), .int v3]) (rest := []) (r := none) (σ' := (fcP (fcP (fcP σ 94 ((4 : Int32) * ((σ.1 93 1) &&& (511 : Int32))) v1) 94 (((4 : Int32) * ((σ.1 93 1) &&& (511 : Int32))) + (1 : Int32)) v2) 94 (((4 : Int32) * ((σ.1 93 1) &&& (511 : Int32))) + (2 : Int32)) v3)) (T_X2_put (E := fhEn Γ) (d := fhD Γ - 1) hE (by omega) 94 (((4 : Int32) * ((σ.1 93 1) &&& (511 : Int32))) + (2 : Int32)) v3 rfl (fcP (fcP σ 94 ((4 : Int32) * ((σ.1 93 1) &&& (511 : Int32))) v1) 94 (((4 : Int32) * ((σ.1 93 1) &&& (511 : Int32))) + (1 : Int32)) v2)) (by omega) (by decide +kernel) rfl rfl rfl (Nat.le_of_ble_eq_true rfl) rfl ?_
  show fhW fhYF Γ 46 [(5, .int ((4 : Int32) * ((σ.1 93 1) &&& (511 : Int32)))), (0, .ref 93), (1, .int v1), (2, .int v2), (3, .int v3), (4, .int v4)] [] (fcP (fcP (fcP σ 94 ((4 : Int32) * ((σ.1 93 1) &&& (511 : Int32))) v1) 94 (((4 : Int32) * ((σ.1 93 1) &&& (511 : Int32))) + (1 : Int32)) v2) 94 (((4 : Int32) * ((σ.1 93 1) &&& (511 : Int32))) + (2 : Int32)) v3)
  refine fhW.blk fhPF fhLL hΓ [(.aload_n 0, 0), (.getfield 16, 0), (.iload 5, 0), (.iconst 3, 3), (.iadd, 0), (.iload 4, 0)] (pc' := 56) (lv' := [(5, .int ((4 : Int32) * ((σ.1 93 1) &&& (511 : Int32)))), (0, .ref 93), (1, .int v1), (2, .int v2), (3, .int v3), (4, .int v4)]) (st' := [.int v4, .int (((4 : Int32) * ((σ.1 93 1) &&& (511 : Int32))) + (3 : Int32)), .ref 94]) (σ' := (fcP (fcP (fcP σ 94 ((4 : Int32) * ((σ.1 93 1) &&& (511 : Int32))) v1) 94 (((4 : Int32) * ((σ.1 93 1) &&& (511 : Int32))) + (1 : Int32)) v2) 94 (((4 : Int32) * ((σ.1 93 1) &&& (511 : Int32))) + (2 : Int32)) v3)) (by decide +kernel) rfl rfl rfl ?_
  refine fhW.callv hΓ mvX2_put ml_6_33 (t := 94) (ci := 2) (av := [.int (((4 : Int32) * ((σ.1 93 1) &&& (511 : Int32))) + (3 : Int32)), .int v4]) (rest := []) (r := none) (σ' := (fcP (fcP (fcP (fcP σ 94 ((4 : Int32) * ((σ.1 93 1) &&& (511 : Int32))) v1) 94 (((4 : Int32) * ((σ.1 93 1) &&& (511 : Int32))) + (1 : Int32)) v2) 94 (((4 : Int32) * ((σ.1 93 1) &&& (511 : Int32))) + (2 : Int32)) v3) 94 (((4 : Int32) * ((σ.1 93 1) &&& (511 : Int32))) + (3 : Int32)) v4)) (T_X2_put (E := fhEn Γ) (d := fhD Γ - 1) hE (by omega) 94 (((4 : Int32) * ((σ.1 93 1) &&& (511 : Int32))) + (3 : Int32)) v4 rfl (fcP (fcP (fcP σ 94 ((4 : Int32) * ((σ.1 93 1) &&& (511 : Int32))) v1) 94 (((4 : Int32) * ((σ.1 93 1) &&& (511 : Int32))) + (1 : Int32)) v2) 94 (((4 : Int32) * ((σ.1 93 1) &&& (511 : Int32))) + (2 : Int32)) v3)) (by omega) (by decide +kernel) rfl rfl rfl (Nat.le_of_ble_eq_true rfl) rfl ?_
  show fhW fhYF Γ 59 [(5, .int ((4 : Int32) * ((σ.1 93 1) &&& (511 : Int32)))), (0, .ref 93), (1, .int v1), (2, .int v2), (3, .int v3), (4, .int v4)] [] (fcP (fcP (fcP (fcP σ 94 ((4 : Int32) * ((σ.1 93 1) &&& (511 : Int32))) v1) 94 (((4 : Int32) * ((σ.1 93 1) &&& (511 : Int32))) + (1 : Int32)) v2) 94 (((4 : Int32) * ((σ.1 93 1) &&& (511 : Int32))) + (2 : Int32)) v3) 94 (((4 : Int32) * ((σ.1 93 1) &&& (511 : Int32))) + (3 : Int32)) v4)
  refine fhW.blk fhPF fhLL hΓ [(.aload_n 0, 0), (.dup, 0), (.getfield 23, 0), (.iconst 1, 1), (.iadd, 0), (.putfield 23, 0)] (pc' := 69) (lv' := [(5, .int ((4 : Int32) * ((σ.1 93 1) &&& (511 : Int32)))), (0, .ref 93), (1, .int v1), (2, .int v2), (3, .int v3), (4, .int v4)]) (st' := []) (σ' := (fhI (fcP (fcP (fcP (fcP σ 94 ((4 : Int32) * ((σ.1 93 1) &&& (511 : Int32))) v1) 94 (((4 : Int32) * ((σ.1 93 1) &&& (511 : Int32))) + (1 : Int32)) v2) 94 (((4 : Int32) * ((σ.1 93 1) &&& (511 : Int32))) + (2 : Int32)) v3) 94 (((4 : Int32) * ((σ.1 93 1) &&& (511 : Int32))) + (3 : Int32)) v4) 93 1 ((σ.1 93 1) + (1 : Int32)))) (by decide +kernel) rfl rfl rfl ?_
  subst h
  exact fhW.vret hΓ (by decide +kernel) hk
set_option maxRecDepth 100000 in
theorem T_X6_write {E : fhE} {d : Nat} (hE : fhEok fhYF E) (hd : 1 ≤ d) (v1 : Int32) (v2 : Int32) (v3 : Int32) (v4 : Int32)  (σ : fhM) : fhC fhYF E d miX6_write [.ref 93, .int v1, .int v2, .int v3, .int v4] σ none (f_X6_write v1 v2 v3 v4 σ) := by
  refine fhC.of (y := yX6_write) (cc := cX6_write) (nL := 6) (ret := none) 6 rfl (by decide +kernel) (Nat.le_of_ble_eq_true rfl) ?_
  intro Γ hΓ hR hD hEn
  subst hD; subst hEn
  exact L_X6_write_E hE hΓ hd v1 v2 v3 v4  σ _ rfl hR
set_option maxRecDepth 100000 in
set_option maxHeartbeats 4000000 in
theorem L_X11_playRound_28 {Γ : fhX} (hE : fhEok fhYF (fhEn Γ)) (hΓ : fhOk fhYF 11 cX11_playRound 5 (some .int) Γ) (hd : 5 ≤ fhD Γ) (s0 : Int32)  (σ : fhM) (o : Int32 × fhM) (h : f_X11_playRound_28 s0 σ = some o) (hk : (fun o => fhRet Γ (some (.int o.1)) o.2) o) : fhW fhYF Γ 28 [(0, .ref 0)] [.int s0] σ := by
  unfold f_X11_playRound_28 at h
  refine fhW.blk fhPF fhLL hΓ [(.istore_n 3, 0), (.aload_n 0, 0), (.getfield 72, 0)] (pc' := 33) (lv' := [(3, .int s0), (0, .ref 0)]) (st' := [.ref 56]) (σ' := σ) (by decide +kernel) rfl rfl rfl ?_
  refine fhW.callv hΓ mvX4_knowers ml_11_184 (t := 56) (ci := 4) (av := []) (rest := []) (r := (some (.int (f_X4_knowers σ)))) (σ' := σ) (T_X4_knowers (E := fhEn Γ) (d := fhD Γ - 1) hE (by omega) σ) (by omega) (by decide +kernel) rfl rfl rfl (Nat.le_of_ble_eq_true rfl) rfl ?_
  show fhW fhYF Γ 36 [(3, .int s0), (0, .ref 0)] [.int (f_X4_knowers σ)] σ
  refine fhW.blk fhPF fhLL hΓ [(.iload_n 3, 0), (.iand, 0), (.istore 4, 0), (.aload_n 0, 0), (.getfield 72, 0), (.aload_n 0, 0), (.getfield 72, 0), (.getfield 282, 0), (.iload_n 3, 0)] (pc' := 52) (lv' := [(4, .int ((f_X4_knowers σ) &&& s0)), (3, .int s0), (0, .ref 0)]) (st' := [.int s0, .ref 74, .ref 56]) (σ' := σ) (by decide +kernel) rfl rfl rfl ?_
  obtain ⟨q1, hb1, h⟩ := Option.bind_eq_some_iff.mp h
  refine fhW.callv hΓ mvX4_keepAlike ml_11_325 (t := 56) (ci := 4) (av := [.ref 74, .int s0]) (rest := []) (r := none) (σ' := q1) (T_X4_keepAlike (E := fhEn Γ) (d := fhD Γ - 1) hE (by omega) 74 s0 rfl σ hb1) (by omega) (by decide +kernel) rfl rfl rfl (Nat.le_of_ble_eq_true rfl) rfl ?_
  show fhW fhYF Γ 55 [(4, .int ((f_X4_knowers σ) &&& s0)), (3, .int s0), (0, .ref 0)] [] q1
  refine fhW.blk fhPF fhLL hΓ [(.aload_n 0, 0), (.getfield 72, 0), (.dup, 0), (.getfield 175, 0), (.iconst 1, 1), (.iadd, 0), (.putfield 175, 0), (.aload_n 0, 0), (.getfield 86, 0), (.iconst 0, 0), (.iconst 0, 0), (.iload 4, 0), (.aload_n 0, 0), (.getfield 72, 0), (.getfield 178, 0)] (pc' := 83) (lv' := [(4, .int ((f_X4_knowers σ) &&& s0)), (3, .int s0), (0, .ref 0)]) (st' := [.int (q1.1 56 8), .int ((f_X4_knowers σ) &&& s0), .int (0 : Int32), .int (0 : Int32), .ref 93]) (σ' := (fhI q1 56 10 ((q1.1 56 10) + (1 : Int32)))) (by decide +kernel) rfl rfl rfl ?_
  refine fhW.callv hΓ mvX6_write ml_11_329 (t := 93) (ci := 6) (av := [.int (0 : Int32), .int (0 : Int32), .int ((f_X4_knowers σ) &&& s0), .int (q1.1 56 8)]) (rest := []) (r := none) (σ' := (f_X6_write (0 : Int32) (0 : Int32) ((f_X4_knowers σ) &&& s0) (q1.1 56 8) (fhI q1 56 10 ((q1.1 56 10) + (1 : Int32))))) (T_X6_write (E := fhEn Γ) (d := fhD Γ - 1) hE (by omega) (0 : Int32) (0 : Int32) ((f_X4_knowers σ) &&& s0) (q1.1 56 8) (fhI q1 56 10 ((q1.1 56 10) + (1 : Int32)))) (by omega) (by decide +kernel) rfl rfl rfl (Nat.le_of_ble_eq_true rfl) rfl ?_
  show fhW fhYF Γ 86 [(4, .int ((f_X4_knowers σ) &&& s0)), (3, .int s0), (0, .ref 0)] [] (f_X6_write (0 : Int32) (0 : Int32) ((f_X4_knowers σ) &&& s0) (q1.1 56 8) (fhI q1 56 10 ((q1.1 56 10) + (1 : Int32))))
  obtain ⟨q2, e1, h⟩ := fhlet_elim h
  rw [← e1]
  refine fhW.blk fhPF fhLL hΓ [(.iload 4, 0)] (pc' := 88) (lv' := [(4, .int ((f_X4_knowers σ) &&& s0)), (3, .int s0), (0, .ref 0)]) (st' := [.int ((f_X4_knowers σ) &&& s0)]) (σ' := q2) (by decide +kernel) rfl rfl rfl ?_
  have e9 := Option.some.inj h
  subst e9
  exact fhW.iret hΓ (by decide +kernel) hk
set_option maxRecDepth 100000 in
set_option maxHeartbeats 4000000 in
theorem L_X11_playRound_E {Γ : fhX} (hE : fhEok fhYF (fhEn Γ)) (hΓ : fhOk fhYF 11 cX11_playRound 5 (some .int) Γ) (hd : 5 ≤ fhD Γ) (v1 : Int32)  (σ : fhM) (o : Int32 × fhM) (h : f_X11_playRound v1 σ = some o) (hk : (fun o => fhRet Γ (some (.int o.1)) o.2) o) : fhW fhYF Γ 0 [(0, .ref 0), (1, .int v1)] [] σ := by
  unfold f_X11_playRound at h
  refine fhW.blk fhPF fhLL hΓ [(.iconst 1, 1), (.aload_n 0, 0), (.getfield 63, 0), (.getfield 166, 0), (.ishl, 0), (.iconst 1, 1), (.isub, 0), (.istore_n 2, 0)] (pc' := 12) (lv' := [(2, .int (((1 : Int32) <<< ((σ.1 39 9) &&& 31)) - (1 : Int32))), (0, .ref 0), (1, .int v1)]) (st' := []) (σ' := σ) (by decide +kernel) rfl rfl rfl ?_
  obtain ⟨w2_1, e2, h⟩ := fhlet_elim h
  rw [← e2]
  refine fhW.blk fhPF fhLL hΓ [(.iload_n 1, 0), (.iconst (-1), -1)] (pc' := 14) (lv' := [(2, .int w2_1), (0, .ref 0), (1, .int v1)]) (st' := [.int (-1 : Int32), .int v1]) (σ' := σ) (by decide +kernel) rfl rfl rfl ?_
  refine fhW.i_ne hΓ (tgt := 21) (show fhbk _ _ (.if_icmp .ne (7)) _ = true by decide +kernel) (fun hc => ?_) (fun hc => ?_)
  · simp only [if_neg hc] at h
    refine fhW.blk fhPF fhLL hΓ [(.iload_n 2, 0), (.iconst 1, 1), (.iload_n 1, 0), (.ishl, 0), (.iconst (-1), -1), (.ixor, 0), (.iand, 0)] (pc' := 28) (lv' := [(2, .int w2_1), (0, .ref 0), (1, .int v1)]) (st' := [.int (w2_1 &&& (((1 : Int32) <<< (v1 &&& 31)) ^^^ (-1 : Int32)))]) (σ' := σ) (by decide +kernel) rfl rfl rfl ?_
    refine fhW.sub (lv' := [(0, .ref 0)]) [1] rfl ?_
    exact L_X11_playRound_28 hE hΓ hd (w2_1 &&& (((1 : Int32) <<< (v1 &&& 31)) ^^^ (-1 : Int32))) σ _ h hk
  · simp only [if_pos hc] at h
    refine fhW.blk fhPF fhLL hΓ [(.iload_n 2, 0)] (pc' := 18) (lv' := [(2, .int w2_1), (0, .ref 0), (1, .int v1)]) (st' := [.int w2_1]) (σ' := σ) (by decide +kernel) rfl rfl rfl ?_
    refine fhW.goto hΓ (off := 10) (tgt := 28) (by decide +kernel) ?_
    refine fhW.sub (lv' := [(0, .ref 0)]) [1] rfl ?_
    exact L_X11_playRound_28 hE hΓ hd w2_1 σ _ h hk
set_option maxRecDepth 100000 in
theorem T_X11_playRound {E : fhE} {d : Nat} (hE : fhEok fhYF E) (hd : 5 ≤ d) (v1 : Int32)  (σ : fhM) {o : Int32 × fhM} (h : f_X11_playRound v1 σ = some o) : fhC fhYF E d miX11_playRound [.ref 0, .int v1] σ (some (.int o.1)) o.2 := by
  refine fhC.of (y := yX11_playRound) (cc := cX11_playRound) (nL := 5) (ret := (some .int)) 11 rfl (by decide +kernel) (Nat.le_of_ble_eq_true rfl) ?_
  intro Γ hΓ hR hD hEn
  subst hD; subst hEn
  exact L_X11_playRound_E hE hΓ hd v1  σ _ h hR
set_option maxRecDepth 100000 in
set_option maxHeartbeats 4000000 in
theorem L_X11_round_20 {Γ : fhX} (hE : fhEok fhYF (fhEn Γ)) (hΓ : fhOk fhYF 11 cX11_round 1 (some .int) Γ) (hd : 6 ≤ fhD Γ)   (σ : fhM) (o : Int32 × fhM) (h : f_X11_round_20 σ = some o) (hk : (fun o => fhRet Γ (some (.int o.1)) o.2) o) : fhW fhYF Γ 20 [(0, .ref 0)] [] σ := by
  unfold f_X11_round_20 at h
  refine fhW.blk fhPF fhLL hΓ [(.aload_n 0, 0), (.iconst 3, 3)] (pc' := 22) (lv' := [(0, .ref 0)]) (st' := [.int (3 : Int32), .ref 0]) (σ' := σ) (by decide +kernel) rfl rfl rfl ?_
  refine fhW.callv hΓ mvX11_refuse ml_11_106 (t := 0) (ci := 11) (av := [.int (3 : Int32)]) (rest := []) (r := (some (.int (f_X11_refuse (3 : Int32) σ).1))) (σ' := (f_X11_refuse (3 : Int32) σ).2) (T_X11_refuse (E := fhEn Γ) (d := fhD Γ - 1) hE (by omega) (3 : Int32) σ) (by omega) (by decide +kernel) rfl rfl rfl (Nat.le_of_ble_eq_true rfl) rfl ?_
  show fhW fhYF Γ 25 [(0, .ref 0)] [.int (f_X11_refuse (3 : Int32) σ).1] (f_X11_refuse (3 : Int32) σ).2
  obtain ⟨q3, e1, h⟩ := fhlet_elim h
  rw [← e1]
  have e9 := Option.some.inj h
  subst e9
  exact fhW.iret hΓ (by decide +kernel) hk
set_option maxRecDepth 100000 in
set_option maxHeartbeats 4000000 in
theorem L_X11_round_E {Γ : fhX} (hE : fhEok fhYF (fhEn Γ)) (hΓ : fhOk fhYF 11 cX11_round 1 (some .int) Γ) (hd : 6 ≤ fhD Γ)   (σ : fhM) (o : Int32 × fhM) (h : f_X11_round σ = some o) (hk : (fun o => fhRet Γ (some (.int o.1)) o.2) o) : fhW fhYF Γ 0 [(0, .ref 0)] [] σ := by
  unfold f_X11_round at h
  refine fhW.blk fhPF fhLL hΓ [(.aload_n 0, 0), (.getfield 131, 0)] (pc' := 4) (lv' := [(0, .ref 0)]) (st' := [.int (σ.1 0 8)]) (σ' := σ) (by decide +kernel) rfl rfl rfl ?_
  refine fhW.z_eq hΓ (tgt := 20) (show fhbk _ _ (.ifCond .eq (16)) _ = true by decide +kernel) (fun hc => ?_) (fun hc => ?_)
  · rw [if_pos hc] at h
    refine fhW.sub (lv' := [(0, .ref 0)]) [0] rfl ?_
    exact L_X11_round_20 hE hΓ hd σ _ h hk
  · rw [if_neg hc] at h
    refine fhW.blk fhPF fhLL hΓ [(.aload_n 0, 0), (.getfield 72, 0), (.getfield 175, 0), (.sipush 999, 999)] (pc' := 17) (lv' := [(0, .ref 0)]) (st' := [.int (999 : Int32), .int (σ.1 56 10)]) (σ' := σ) (by decide +kernel) rfl rfl rfl ?_
    refine fhW.i_lt hΓ (tgt := 26) (show fhbk _ _ (.if_icmp .lt (9)) _ = true by decide +kernel) (fun hc => ?_) (fun hc => ?_)
    · rw [if_pos hc] at h
      refine fhW.blk fhPF fhLL hΓ [(.aload_n 0, 0), (.getfield 86, 0), (.aload_n 0, 0), (.getfield 72, 0)] (pc' := 34) (lv' := [(0, .ref 0)]) (st' := [.ref 56, .ref 93]) (σ' := σ) (by decide +kernel) rfl rfl rfl ?_
      obtain ⟨q1, hb1, h⟩ := Option.bind_eq_some_iff.mp h
      refine fhW.callv hΓ mvX6_save ml_11_318 (t := 93) (ci := 6) (av := [.ref 56]) (rest := []) (r := none) (σ' := q1) (T_X6_save (E := fhEn Γ) (d := fhD Γ - 1) hE (by omega) σ hb1) (by omega) (by decide +kernel) rfl rfl rfl (Nat.le_of_ble_eq_true rfl) rfl ?_
      show fhW fhYF Γ 37 [(0, .ref 0)] [] q1
      refine fhW.blk fhPF fhLL hΓ [(.aload_n 0, 0), (.iconst (-1), -1)] (pc' := 39) (lv' := [(0, .ref 0)]) (st' := [.int (-1 : Int32), .ref 0]) (σ' := q1) (by decide +kernel) rfl rfl rfl ?_
      obtain ⟨q2, hb2, h⟩ := Option.bind_eq_some_iff.mp h
      refine fhW.callv hΓ mvX11_playRound ml_11_322 (t := 0) (ci := 11) (av := [.int (-1 : Int32)]) (rest := []) (r := (some (.int q2.1))) (σ' := q2.2) (T_X11_playRound (E := fhEn Γ) (d := fhD Γ - 1) hE (by omega) (-1 : Int32) q1 hb2) (by omega) (by decide +kernel) rfl rfl rfl (Nat.le_of_ble_eq_true rfl) rfl ?_
      show fhW fhYF Γ 42 [(0, .ref 0)] [.int q2.1] q2.2
      have e9 := Option.some.inj h
      subst e9
      exact fhW.iret hΓ (by decide +kernel) hk
    · rw [if_neg hc] at h
      refine fhW.sub (lv' := [(0, .ref 0)]) [0] rfl ?_
      exact L_X11_round_20 hE hΓ hd σ _ h hk
set_option maxRecDepth 100000 in
theorem T_X11_round {E : fhE} {d : Nat} (hE : fhEok fhYF E) (hd : 6 ≤ d)   (σ : fhM) {o : Int32 × fhM} (h : f_X11_round σ = some o) : fhC fhYF E d miX11_round [.ref 0] σ (some (.int o.1)) o.2 := by
  refine fhC.of (y := yX11_round) (cc := cX11_round) (nL := 1) (ret := (some .int)) 11 rfl (by decide +kernel) (Nat.le_of_ble_eq_true rfl) ?_
  intro Γ hΓ hR hD hEn
  subst hD; subst hEn
  exact L_X11_round_E hE hΓ hd   σ _ h hR
set_option maxRecDepth 100000 in
set_option maxHeartbeats 4000000 in
theorem L_X11_says_E {Γ : fhX} (hE : fhEok fhYF (fhEn Γ)) (hΓ : fhOk fhYF 11 cX11_says 3 (some .int) Γ) (hd : 5 ≤ fhD Γ) (v1 : Int32)  (σ : fhM) (o : Int32 × fhM) (h : f_X11_says v1 σ = some o) (hk : (fun o => fhRet Γ (some (.int o.1)) o.2) o) : fhW fhYF Γ 0 [(0, .ref 0), (1, .int v1)] [] σ := by
  unfold f_X11_says at h
  refine fhW.blk fhPF fhLL hΓ [(.aload_n 0, 0), (.iload_n 1, 0)] (pc' := 2) (lv' := [(0, .ref 0), (1, .int v1)]) (st' := [.int v1, .ref 0]) (σ' := σ) (by decide +kernel) rfl rfl rfl ?_
  refine fhW.callv hΓ mvX11_isGuest ml_11_201 (t := 0) (ci := 11) (av := [.int v1]) (rest := []) (r := (some (.int (fhb (f_X11_isGuest v1 σ))))) (σ' := σ) (T_X11_isGuest (E := fhEn Γ) (d := fhD Γ - 1) hE (by omega) v1 σ) (by omega) (by decide +kernel) rfl rfl rfl (Nat.le_of_ble_eq_true rfl) rfl ?_
  show fhW fhYF Γ 5 [(0, .ref 0), (1, .int v1)] [.int (fhb (f_X11_isGuest v1 σ))] σ
  refine fhW.b_ne hΓ (tgt := 14) (show fhbk _ _ (.ifCond .ne (9)) _ = true by decide +kernel) (fun hc => ?_) (fun hc => ?_)
  · rw [if_pos hc] at h
    refine fhW.blk fhPF fhLL hΓ [(.aload_n 0, 0), (.getfield 86, 0), (.aload_n 0, 0), (.getfield 72, 0)] (pc' := 22) (lv' := [(0, .ref 0), (1, .int v1)]) (st' := [.ref 56, .ref 93]) (σ' := σ) (by decide +kernel) rfl rfl rfl ?_
    obtain ⟨q1, hb1, h⟩ := Option.bind_eq_some_iff.mp h
    refine fhW.callv hΓ mvX6_save ml_11_318 (t := 93) (ci := 6) (av := [.ref 56]) (rest := []) (r := none) (σ' := q1) (T_X6_save (E := fhEn Γ) (d := fhD Γ - 1) hE (by omega) σ hb1) (by omega) (by decide +kernel) rfl rfl rfl (Nat.le_of_ble_eq_true rfl) rfl ?_
    show fhW fhYF Γ 25 [(0, .ref 0), (1, .int v1)] [] q1
    refine fhW.blk fhPF fhLL hΓ [(.aload_n 0, 0), (.getfield 72, 0), (.iload_n 1, 0)] (pc' := 30) (lv' := [(0, .ref 0), (1, .int v1)]) (st' := [.int v1, .ref 56]) (σ' := q1) (by decide +kernel) rfl rfl rfl ?_
    refine fhW.callv hΓ mvX4_isKnower ml_11_219 (t := 56) (ci := 4) (av := [.int v1]) (rest := []) (r := (some (.int (fhb (f_X4_isKnower v1 q1))))) (σ' := q1) (T_X4_isKnower (E := fhEn Γ) (d := fhD Γ - 1) hE (by omega) v1 q1) (by omega) (by decide +kernel) rfl rfl rfl (Nat.le_of_ble_eq_true rfl) rfl ?_
    show fhW fhYF Γ 33 [(0, .ref 0), (1, .int v1)] [.int (fhb (f_X4_isKnower v1 q1))] q1
    refine fhW.calls hΓ msX11_one ml_11_222 (av := [.int (fhb (f_X4_isKnower v1 q1))]) (rest := []) (r := (some (.int (f_X11_one (fhb (f_X4_isKnower v1 q1)) q1)))) (σ' := q1) (T_X11_one (E := fhEn Γ) (d := fhD Γ - 1) hE (by omega) (fhb (f_X4_isKnower v1 q1)) q1) (by omega) (by decide +kernel) rfl (Nat.le_of_ble_eq_true rfl) rfl ?_
    show fhW fhYF Γ 36 [(0, .ref 0), (1, .int v1)] [.int (f_X11_one (fhb (f_X4_isKnower v1 q1)) q1)] q1
    refine fhW.blk fhPF fhLL hΓ [(.istore_n 2, 0), (.aload_n 0, 0), (.getfield 72, 0), (.aload_n 0, 0), (.getfield 72, 0), (.getfield 282, 0), (.iconst 1, 1), (.iload_n 1, 0), (.ishl, 0)] (pc' := 51) (lv' := [(2, .int (f_X11_one (fhb (f_X4_isKnower v1 q1)) q1)), (0, .ref 0), (1, .int v1)]) (st' := [.int ((1 : Int32) <<< (v1 &&& 31)), .ref 74, .ref 56]) (σ' := q1) (by decide +kernel) rfl rfl rfl ?_
    obtain ⟨q2, hb2, h⟩ := Option.bind_eq_some_iff.mp h
    refine fhW.callv hΓ mvX4_keepAlike ml_11_325 (t := 56) (ci := 4) (av := [.ref 74, .int ((1 : Int32) <<< (v1 &&& 31))]) (rest := []) (r := none) (σ' := q2) (T_X4_keepAlike (E := fhEn Γ) (d := fhD Γ - 1) hE (by omega) 74 ((1 : Int32) <<< (v1 &&& 31)) rfl q1 hb2) (by omega) (by decide +kernel) rfl rfl rfl (Nat.le_of_ble_eq_true rfl) rfl ?_
    show fhW fhYF Γ 54 [(2, .int (f_X11_one (fhb (f_X4_isKnower v1 q1)) q1)), (0, .ref 0), (1, .int v1)] [] q2
    refine fhW.blk fhPF fhLL hΓ [(.aload_n 0, 0), (.getfield 86, 0), (.iconst 1, 1), (.iload_n 1, 0), (.iload_n 2, 0), (.aload_n 0, 0), (.getfield 72, 0), (.getfield 178, 0)] (pc' := 68) (lv' := [(2, .int (f_X11_one (fhb (f_X4_isKnower v1 q1)) q1)), (0, .ref 0), (1, .int v1)]) (st' := [.int (q2.1 56 8), .int (f_X11_one (fhb (f_X4_isKnower v1 q1)) q1), .int v1, .int (1 : Int32), .ref 93]) (σ' := q2) (by decide +kernel) rfl rfl rfl ?_
    refine fhW.callv hΓ mvX6_write ml_11_329 (t := 93) (ci := 6) (av := [.int (1 : Int32), .int v1, .int (f_X11_one (fhb (f_X4_isKnower v1 q1)) q1), .int (q2.1 56 8)]) (rest := []) (r := none) (σ' := (f_X6_write (1 : Int32) v1 (f_X11_one (fhb (f_X4_isKnower v1 q1)) q1) (q2.1 56 8) q2)) (T_X6_write (E := fhEn Γ) (d := fhD Γ - 1) hE (by omega) (1 : Int32) v1 (f_X11_one (fhb (f_X4_isKnower v1 q1)) q1) (q2.1 56 8) q2) (by omega) (by decide +kernel) rfl rfl rfl (Nat.le_of_ble_eq_true rfl) rfl ?_
    show fhW fhYF Γ 71 [(2, .int (f_X11_one (fhb (f_X4_isKnower v1 q1)) q1)), (0, .ref 0), (1, .int v1)] [] (f_X6_write (1 : Int32) v1 (f_X11_one (fhb (f_X4_isKnower v1 q1)) q1) (q2.1 56 8) q2)
    obtain ⟨q3, e1, h⟩ := fhlet_elim h
    rw [← e1]
    refine fhW.blk fhPF fhLL hΓ [(.iload_n 2, 0)] (pc' := 72) (lv' := [(2, .int (f_X11_one (fhb (f_X4_isKnower v1 q1)) q1)), (0, .ref 0), (1, .int v1)]) (st' := [.int (f_X11_one (fhb (f_X4_isKnower v1 q1)) q1)]) (σ' := q3) (by decide +kernel) rfl rfl rfl ?_
    have e9 := Option.some.inj h
    subst e9
    exact fhW.iret hΓ (by decide +kernel) hk
  · rw [if_neg hc] at h
    refine fhW.blk fhPF fhLL hΓ [(.aload_n 0, 0), (.iconst 2, 2)] (pc' := 10) (lv' := [(0, .ref 0), (1, .int v1)]) (st' := [.int (2 : Int32), .ref 0]) (σ' := σ) (by decide +kernel) rfl rfl rfl ?_
    refine fhW.callv hΓ mvX11_refuse ml_11_106 (t := 0) (ci := 11) (av := [.int (2 : Int32)]) (rest := []) (r := (some (.int (f_X11_refuse (2 : Int32) σ).1))) (σ' := (f_X11_refuse (2 : Int32) σ).2) (T_X11_refuse (E := fhEn Γ) (d := fhD Γ - 1) hE (by omega) (2 : Int32) σ) (by omega) (by decide +kernel) rfl rfl rfl (Nat.le_of_ble_eq_true rfl) rfl ?_
    show fhW fhYF Γ 13 [(0, .ref 0), (1, .int v1)] [.int (f_X11_refuse (2 : Int32) σ).1] (f_X11_refuse (2 : Int32) σ).2
    obtain ⟨q4, e2, h⟩ := fhlet_elim h
    rw [← e2]
    have e9 := Option.some.inj h
    subst e9
    exact fhW.iret hΓ (by decide +kernel) hk
set_option maxRecDepth 100000 in
theorem T_X11_says {E : fhE} {d : Nat} (hE : fhEok fhYF E) (hd : 5 ≤ d) (v1 : Int32)  (σ : fhM) {o : Int32 × fhM} (h : f_X11_says v1 σ = some o) : fhC fhYF E d miX11_says [.ref 0, .int v1] σ (some (.int o.1)) o.2 := by
  refine fhC.of (y := yX11_says) (cc := cX11_says) (nL := 3) (ret := (some .int)) 11 rfl (by decide +kernel) (Nat.le_of_ble_eq_true rfl) ?_
  intro Γ hΓ hR hD hEn
  subst hD; subst hEn
  exact L_X11_says_E hE hΓ hd v1  σ _ h hR
set_option maxRecDepth 100000 in
set_option maxHeartbeats 4000000 in
theorem L_X11_tell_E {Γ : fhX} (hE : fhEok fhYF (fhEn Γ)) (hΓ : fhOk fhYF 11 cX11_tell 3 (some .int) Γ) (hd : 5 ≤ fhD Γ) (v1 : Int32)  (σ : fhM) (o : Int32 × fhM) (h : f_X11_tell v1 σ = some o) (hk : (fun o => fhRet Γ (some (.int o.1)) o.2) o) : fhW fhYF Γ 0 [(0, .ref 0), (1, .int v1)] [] σ := by
  unfold f_X11_tell at h
  refine fhW.blk fhPF fhLL hΓ [(.aload_n 0, 0), (.iload_n 1, 0)] (pc' := 2) (lv' := [(0, .ref 0), (1, .int v1)]) (st' := [.int v1, .ref 0]) (σ' := σ) (by decide +kernel) rfl rfl rfl ?_
  refine fhW.callv hΓ mvX11_isFact ml_11_229 (t := 0) (ci := 11) (av := [.int v1]) (rest := []) (r := (some (.int (fhb (f_X11_isFact v1 σ))))) (σ' := σ) (T_X11_isFact (E := fhEn Γ) (d := fhD Γ - 1) hE (by omega) v1 σ) (by omega) (by decide +kernel) rfl rfl rfl (Nat.le_of_ble_eq_true rfl) rfl ?_
  show fhW fhYF Γ 5 [(0, .ref 0), (1, .int v1)] [.int (fhb (f_X11_isFact v1 σ))] σ
  refine fhW.b_ne hΓ (tgt := 14) (show fhbk _ _ (.ifCond .ne (9)) _ = true by decide +kernel) (fun hc => ?_) (fun hc => ?_)
  · rw [if_pos hc] at h
    refine fhW.blk fhPF fhLL hΓ [(.aload_n 0, 0), (.getfield 86, 0), (.aload_n 0, 0), (.getfield 72, 0)] (pc' := 22) (lv' := [(0, .ref 0), (1, .int v1)]) (st' := [.ref 56, .ref 93]) (σ' := σ) (by decide +kernel) rfl rfl rfl ?_
    obtain ⟨q1, hb1, h⟩ := Option.bind_eq_some_iff.mp h
    refine fhW.callv hΓ mvX6_save ml_11_318 (t := 93) (ci := 6) (av := [.ref 56]) (rest := []) (r := none) (σ' := q1) (T_X6_save (E := fhEn Γ) (d := fhD Γ - 1) hE (by omega) σ hb1) (by omega) (by decide +kernel) rfl rfl rfl (Nat.le_of_ble_eq_true rfl) rfl ?_
    show fhW fhYF Γ 25 [(0, .ref 0), (1, .int v1)] [] q1
    refine fhW.blk fhPF fhLL hΓ [(.aload_n 0, 0), (.getfield 63, 0), (.aload_n 0, 0), (.getfield 72, 0), (.getfield 208, 0), (.iload_n 1, 0)] (pc' := 37) (lv' := [(0, .ref 0), (1, .int v1)]) (st' := [.int v1, .int (q1.1 56 9), .ref 39]) (σ' := q1) (by decide +kernel) rfl rfl rfl ?_
    refine fhW.callv hΓ mvX9_holdsIn ml_11_232 (t := 39) (ci := 9) (av := [.int (q1.1 56 9), .int v1]) (rest := []) (r := (some (.int (fhb (f_X9_holdsIn (q1.1 56 9) v1 q1))))) (σ' := q1) (T_X9_holdsIn (E := fhEn Γ) (d := fhD Γ - 1) hE (by omega) (q1.1 56 9) v1 q1) (by omega) (by decide +kernel) rfl rfl rfl (Nat.le_of_ble_eq_true rfl) rfl ?_
    show fhW fhYF Γ 40 [(0, .ref 0), (1, .int v1)] [.int (fhb (f_X9_holdsIn (q1.1 56 9) v1 q1))] q1
    refine fhW.calls hΓ msX11_one ml_11_222 (av := [.int (fhb (f_X9_holdsIn (q1.1 56 9) v1 q1))]) (rest := []) (r := (some (.int (f_X11_one (fhb (f_X9_holdsIn (q1.1 56 9) v1 q1)) q1)))) (σ' := q1) (T_X11_one (E := fhEn Γ) (d := fhD Γ - 1) hE (by omega) (fhb (f_X9_holdsIn (q1.1 56 9) v1 q1)) q1) (by omega) (by decide +kernel) rfl (Nat.le_of_ble_eq_true rfl) rfl ?_
    show fhW fhYF Γ 43 [(0, .ref 0), (1, .int v1)] [.int (f_X11_one (fhb (f_X9_holdsIn (q1.1 56 9) v1 q1)) q1)] q1
    refine fhW.blk fhPF fhLL hΓ [(.istore_n 2, 0)] (pc' := 44) (lv' := [(2, .int (f_X11_one (fhb (f_X9_holdsIn (q1.1 56 9) v1 q1)) q1)), (0, .ref 0), (1, .int v1)]) (st' := []) (σ' := q1) (by decide +kernel) rfl rfl rfl ?_
    obtain ⟨w2_1, e1, h⟩ := fhlet_elim h
    rw [← e1]
    refine fhW.blk fhPF fhLL hΓ [(.aload_n 0, 0), (.getfield 72, 0), (.aload_n 0, 0), (.getfield 63, 0), (.getfield 236, 0), (.iconst 1, 1), (.iload_n 1, 0), (.ishl, 0)] (pc' := 58) (lv' := [(2, .int w2_1), (0, .ref 0), (1, .int v1)]) (st' := [.int ((1 : Int32) <<< (v1 &&& 31)), .ref 52, .ref 56]) (σ' := q1) (by decide +kernel) rfl rfl rfl ?_
    obtain ⟨q2, hb2, h⟩ := Option.bind_eq_some_iff.mp h
    refine fhW.callv hΓ mvX4_keepAlike ml_11_325 (t := 56) (ci := 4) (av := [.ref 52, .int ((1 : Int32) <<< (v1 &&& 31))]) (rest := []) (r := none) (σ' := q2) (T_X4_keepAlike (E := fhEn Γ) (d := fhD Γ - 1) hE (by omega) 52 ((1 : Int32) <<< (v1 &&& 31)) rfl q1 hb2) (by omega) (by decide +kernel) rfl rfl rfl (Nat.le_of_ble_eq_true rfl) rfl ?_
    show fhW fhYF Γ 61 [(2, .int w2_1), (0, .ref 0), (1, .int v1)] [] q2
    refine fhW.blk fhPF fhLL hΓ [(.aload_n 0, 0), (.getfield 86, 0), (.iconst 2, 2), (.iload_n 1, 0), (.iload_n 2, 0), (.aload_n 0, 0), (.getfield 72, 0), (.getfield 178, 0)] (pc' := 75) (lv' := [(2, .int w2_1), (0, .ref 0), (1, .int v1)]) (st' := [.int (q2.1 56 8), .int w2_1, .int v1, .int (2 : Int32), .ref 93]) (σ' := q2) (by decide +kernel) rfl rfl rfl ?_
    refine fhW.callv hΓ mvX6_write ml_11_329 (t := 93) (ci := 6) (av := [.int (2 : Int32), .int v1, .int w2_1, .int (q2.1 56 8)]) (rest := []) (r := none) (σ' := (f_X6_write (2 : Int32) v1 w2_1 (q2.1 56 8) q2)) (T_X6_write (E := fhEn Γ) (d := fhD Γ - 1) hE (by omega) (2 : Int32) v1 w2_1 (q2.1 56 8) q2) (by omega) (by decide +kernel) rfl rfl rfl (Nat.le_of_ble_eq_true rfl) rfl ?_
    show fhW fhYF Γ 78 [(2, .int w2_1), (0, .ref 0), (1, .int v1)] [] (f_X6_write (2 : Int32) v1 w2_1 (q2.1 56 8) q2)
    obtain ⟨q3, e2, h⟩ := fhlet_elim h
    rw [← e2]
    refine fhW.blk fhPF fhLL hΓ [(.iload_n 2, 0)] (pc' := 79) (lv' := [(2, .int w2_1), (0, .ref 0), (1, .int v1)]) (st' := [.int w2_1]) (σ' := q3) (by decide +kernel) rfl rfl rfl ?_
    have e9 := Option.some.inj h
    subst e9
    exact fhW.iret hΓ (by decide +kernel) hk
  · rw [if_neg hc] at h
    refine fhW.blk fhPF fhLL hΓ [(.aload_n 0, 0), (.iconst 2, 2)] (pc' := 10) (lv' := [(0, .ref 0), (1, .int v1)]) (st' := [.int (2 : Int32), .ref 0]) (σ' := σ) (by decide +kernel) rfl rfl rfl ?_
    refine fhW.callv hΓ mvX11_refuse ml_11_106 (t := 0) (ci := 11) (av := [.int (2 : Int32)]) (rest := []) (r := (some (.int (f_X11_refuse (2 : Int32) σ).1))) (σ' := (f_X11_refuse (2 : Int32) σ).2) (T_X11_refuse (E := fhEn Γ) (d := fhD Γ - 1) hE (by omega) (2 : Int32) σ) (by omega) (by decide +kernel) rfl rfl rfl (Nat.le_of_ble_eq_true rfl) rfl ?_
    show fhW fhYF Γ 13 [(0, .ref 0), (1, .int v1)] [.int (f_X11_refuse (2 : Int32) σ).1] (f_X11_refuse (2 : Int32) σ).2
    obtain ⟨q4, e3, h⟩ := fhlet_elim h
    rw [← e3]
    have e9 := Option.some.inj h
    subst e9
    exact fhW.iret hΓ (by decide +kernel) hk
set_option maxRecDepth 100000 in
theorem T_X11_tell {E : fhE} {d : Nat} (hE : fhEok fhYF E) (hd : 5 ≤ d) (v1 : Int32)  (σ : fhM) {o : Int32 × fhM} (h : f_X11_tell v1 σ = some o) : fhC fhYF E d miX11_tell [.ref 0, .int v1] σ (some (.int o.1)) o.2 := by
  refine fhC.of (y := yX11_tell) (cc := cX11_tell) (nL := 3) (ret := (some .int)) 11 rfl (by decide +kernel) (Nat.le_of_ble_eq_true rfl) ?_
  intro Γ hΓ hR hD hEn
  subst hD; subst hEn
  exact L_X11_tell_E hE hΓ hd v1  σ _ h hR
set_option maxRecDepth 100000 in
set_option maxHeartbeats 4000000 in
theorem L_X9_withMark_E {Γ : fhX} (hE : fhEok fhYF (fhEn Γ)) (hΓ : fhOk fhYF 9 cX9_withMark 4 (some .int) Γ) (hd : 2 ≤ fhD Γ) (v1 : Int32) (v2 : Int32) (v3 : Int32)  (σ : fhM) (o : Int32) (h : f_X9_withMark v1 v2 v3 σ = o) (hk : (fun o => fhRet Γ (some (.int o)) σ) o) : fhW fhYF Γ 0 [(0, .ref 39), (1, .int v1), (2, .int v2), (3, .int v3)] [] σ := by
  unfold f_X9_withMark at h
  refine fhW.blk fhPF fhLL hΓ [(.iload_n 3, 0)] (pc' := 1) (lv' := [(0, .ref 39), (1, .int v1), (2, .int v2), (3, .int v3)]) (st' := [.int v3]) (σ' := σ) (by decide +kernel) rfl rfl rfl ?_
  refine fhW.z_lt hΓ (tgt := 12) (show fhbk _ _ (.ifCond .lt (11)) _ = true by decide +kernel) (fun hc => ?_) (fun hc => ?_)
  · rw [if_pos hc] at h
    refine fhW.blk fhPF fhLL hΓ [(.iconst (-1), -1)] (pc' := 13) (lv' := [(0, .ref 39), (1, .int v1), (2, .int v2), (3, .int v3)]) (st' := [.int (-1 : Int32)]) (σ' := σ) (by decide +kernel) rfl rfl rfl ?_
    subst h
    exact fhW.iret hΓ (by decide +kernel) hk
  · rw [if_neg hc] at h
    refine fhW.blk fhPF fhLL hΓ [(.iload_n 3, 0), (.aload_n 0, 0), (.getfield 47, 0)] (pc' := 9) (lv' := [(0, .ref 39), (1, .int v1), (2, .int v2), (3, .int v3)]) (st' := [.int (σ.1 39 5), .int v3]) (σ' := σ) (by decide +kernel) rfl rfl rfl ?_
    refine fhW.i_lt hΓ (tgt := 14) (show fhbk _ _ (.if_icmp .lt (5)) _ = true by decide +kernel) (fun hc => ?_) (fun hc => ?_)
    · rw [if_pos hc] at h
      refine fhW.blk fhPF fhLL hΓ [(.iload_n 1, 0), (.iload_n 3, 0), (.aload_n 0, 0), (.iload_n 1, 0), (.iload_n 2, 0)] (pc' := 19) (lv' := [(0, .ref 39), (1, .int v1), (2, .int v2), (3, .int v3)]) (st' := [.int v2, .int v1, .ref 39, .int v3, .int v1]) (σ' := σ) (by decide +kernel) rfl rfl rfl ?_
      refine fhW.callv hΓ mvX9_markOf ml_9_99 (t := 39) (ci := 9) (av := [.int v1, .int v2]) (rest := [.int v3, .int v1]) (r := (some (.int (f_X9_markOf v1 v2 σ)))) (σ' := σ) (T_X9_markOf (E := fhEn Γ) (d := fhD Γ - 1) hE (by omega) v1 v2 σ) (by omega) (by decide +kernel) rfl rfl rfl (Nat.le_of_ble_eq_true rfl) rfl ?_
      show fhW fhYF Γ 22 [(0, .ref 39), (1, .int v1), (2, .int v2), (3, .int v3)] [.int (f_X9_markOf v1 v2 σ), .int v3, .int v1] σ
      refine fhW.blk fhPF fhLL hΓ [(.isub, 0), (.aload_n 0, 0), (.getfield 14, 0), (.iload_n 2, 0)] (pc' := 28) (lv' := [(0, .ref 39), (1, .int v1), (2, .int v2), (3, .int v3)]) (st' := [.int v2, .ref 40, .int (v3 - (f_X9_markOf v1 v2 σ)), .int v1]) (σ' := σ) (by decide +kernel) rfl rfl rfl ?_
      refine fhW.callv hΓ mvX2_get ml_9_60 (t := 40) (ci := 2) (av := [.int v2]) (rest := [.int (v3 - (f_X9_markOf v1 v2 σ)), .int v1]) (r := (some (.int (fcG σ 40 v2)))) (σ' := σ) (T_X2_get (E := fhEn Γ) (d := fhD Γ - 1) hE (by omega) 40 v2 rfl σ) (by omega) (by decide +kernel) rfl rfl rfl (Nat.le_of_ble_eq_true rfl) rfl ?_
      show fhW fhYF Γ 31 [(0, .ref 39), (1, .int v1), (2, .int v2), (3, .int v3)] [.int (fcG σ 40 v2), .int (v3 - (f_X9_markOf v1 v2 σ)), .int v1] σ
      refine fhW.blk fhPF fhLL hΓ [(.imul, 0), (.iadd, 0)] (pc' := 33) (lv' := [(0, .ref 39), (1, .int v1), (2, .int v2), (3, .int v3)]) (st' := [.int (v1 + ((v3 - (f_X9_markOf v1 v2 σ)) * (fcG σ 40 v2)))]) (σ' := σ) (by decide +kernel) rfl rfl rfl ?_
      subst h
      exact fhW.iret hΓ (by decide +kernel) hk
    · rw [if_neg hc] at h
      refine fhW.blk fhPF fhLL hΓ [(.iconst (-1), -1)] (pc' := 13) (lv' := [(0, .ref 39), (1, .int v1), (2, .int v2), (3, .int v3)]) (st' := [.int (-1 : Int32)]) (σ' := σ) (by decide +kernel) rfl rfl rfl ?_
      subst h
      exact fhW.iret hΓ (by decide +kernel) hk
set_option maxRecDepth 100000 in
theorem T_X9_withMark {E : fhE} {d : Nat} (hE : fhEok fhYF E) (hd : 2 ≤ d) (v1 : Int32) (v2 : Int32) (v3 : Int32)  (σ : fhM) : fhC fhYF E d miX9_withMark [.ref 39, .int v1, .int v2, .int v3] σ (some (.int (f_X9_withMark v1 v2 v3 σ))) σ := by
  refine fhC.of (y := yX9_withMark) (cc := cX9_withMark) (nL := 4) (ret := (some .int)) 9 rfl (by decide +kernel) (Nat.le_of_ble_eq_true rfl) ?_
  intro Γ hΓ hR hD hEn
  subst hD; subst hEn
  exact L_X9_withMark_E hE hΓ hd v1 v2 v3  σ _ rfl hR
set_option maxRecDepth 100000 in
set_option maxHeartbeats 4000000 in
theorem L_X9_isAllowed_E {Γ : fhX} (hE : fhEok fhYF (fhEn Γ)) (hΓ : fhOk fhYF 9 cX9_isAllowed 2 (some .boolean) Γ) (hd : 1 ≤ fhD Γ) (v1 : Int32)  (σ : fhM) (o : Bool) (h : f_X9_isAllowed v1 σ = o) (hk : (fun o => fhRet Γ (some (.int (fhb o))) σ) o) : fhW fhYF Γ 0 [(0, .ref 39), (1, .int v1)] [] σ := by
  unfold f_X9_isAllowed at h
  refine fhW.blk fhPF fhLL hΓ [(.aload_n 0, 0), (.getfield 26, 0), (.iload_n 1, 0)] (pc' := 5) (lv' := [(0, .ref 39), (1, .int v1)]) (st' := [.int v1, .ref 46]) (σ' := σ) (by decide +kernel) rfl rfl rfl ?_
  refine fhW.callv hΓ mvX2_get ml_9_60 (t := 46) (ci := 2) (av := [.int v1]) (rest := []) (r := (some (.int (fcG σ 46 v1)))) (σ' := σ) (T_X2_get (E := fhEn Γ) (d := fhD Γ - 1) hE (by omega) 46 v1 rfl σ) (by omega) (by decide +kernel) rfl rfl rfl (Nat.le_of_ble_eq_true rfl) rfl ?_
  show fhW fhYF Γ 8 [(0, .ref 39), (1, .int v1)] [.int (fcG σ 46 v1)] σ
  refine fhW.z_eq hΓ (tgt := 15) (show fhbk _ _ (.ifCond .eq (7)) _ = true by decide +kernel) (fun hc => ?_) (fun hc => ?_)
  · rw [if_pos hc] at h
    refine fhW.blk fhPF fhLL hΓ [(.iconst 0, 0)] (pc' := 16) (lv' := [(0, .ref 39), (1, .int v1)]) (st' := [.int (0 : Int32)]) (σ' := σ) (by decide +kernel) rfl rfl rfl ?_
    subst h
    exact fhW.zret (v := false) hΓ (by decide +kernel) hk
  · rw [if_neg hc] at h
    refine fhW.blk fhPF fhLL hΓ [(.iconst 1, 1)] (pc' := 12) (lv' := [(0, .ref 39), (1, .int v1)]) (st' := [.int (1 : Int32)]) (σ' := σ) (by decide +kernel) rfl rfl rfl ?_
    refine fhW.goto hΓ (off := 4) (tgt := 16) (by decide +kernel) ?_
    subst h
    exact fhW.zret (v := true) hΓ (by decide +kernel) hk
set_option maxRecDepth 100000 in
theorem T_X9_isAllowed {E : fhE} {d : Nat} (hE : fhEok fhYF E) (hd : 1 ≤ d) (v1 : Int32)  (σ : fhM) : fhC fhYF E d miX9_isAllowed [.ref 39, .int v1] σ (some (.int (fhb (f_X9_isAllowed v1 σ)))) σ := by
  refine fhC.of (y := yX9_isAllowed) (cc := cX9_isAllowed) (nL := 2) (ret := (some .boolean)) 9 rfl (by decide +kernel) (Nat.le_of_ble_eq_true rfl) ?_
  intro Γ hΓ hR hD hEn
  subst hD; subst hEn
  exact L_X9_isAllowed_E hE hΓ hd v1  σ _ rfl hR
set_option maxRecDepth 100000 in
set_option maxHeartbeats 4000000 in
theorem L_X11_wear_56 {Γ : fhX} (hE : fhEok fhYF (fhEn Γ)) (hΓ : fhOk fhYF 11 cX11_wear 4 (some .boolean) Γ) (hd : 5 ≤ fhD Γ)   (σ : fhM) (o : Bool × fhM) (h : f_X11_wear_56 σ = some o) (hk : (fun o => fhRet Γ (some (.int (fhb o.1))) o.2) o) : fhW fhYF Γ 56 [(0, .ref 0)] [] σ := by
  unfold f_X11_wear_56 at h
  refine fhW.blk fhPF fhLL hΓ [(.aload_n 0, 0), (.iconst 2, 2)] (pc' := 58) (lv' := [(0, .ref 0)]) (st' := [.int (2 : Int32), .ref 0]) (σ' := σ) (by decide +kernel) rfl rfl rfl ?_
  refine fhW.callv hΓ mvX11_refuse ml_11_106 (t := 0) (ci := 11) (av := [.int (2 : Int32)]) (rest := []) (r := (some (.int (f_X11_refuse (2 : Int32) σ).1))) (σ' := (f_X11_refuse (2 : Int32) σ).2) (T_X11_refuse (E := fhEn Γ) (d := fhD Γ - 1) hE (by omega) (2 : Int32) σ) (by omega) (by decide +kernel) rfl rfl rfl (Nat.le_of_ble_eq_true rfl) rfl ?_
  show fhW fhYF Γ 61 [(0, .ref 0)] [.int (f_X11_refuse (2 : Int32) σ).1] (f_X11_refuse (2 : Int32) σ).2
  obtain ⟨q3, e1, h⟩ := fhlet_elim h
  rw [← e1]
  refine fhW.blk fhPF fhLL hΓ [(.pop, 0), (.iconst 0, 0)] (pc' := 63) (lv' := [(0, .ref 0)]) (st' := [.int (0 : Int32)]) (σ' := q3.2) (by decide +kernel) rfl rfl rfl ?_
  have e9 := Option.some.inj h
  subst e9
  exact fhW.zret (v := false) hΓ (by decide +kernel) hk
set_option maxRecDepth 100000 in
set_option maxHeartbeats 4000000 in
theorem L_X11_wear_28 {Γ : fhX} (hE : fhEok fhYF (fhEn Γ)) (hΓ : fhOk fhYF 11 cX11_wear 4 (some .boolean) Γ) (hd : 5 ≤ fhD Γ) (s0 : Int32)  (σ : fhM) (o : Bool × fhM) (h : f_X11_wear_28 s0 σ = some o) (hk : (fun o => fhRet Γ (some (.int (fhb o.1))) o.2) o) : fhW fhYF Γ 28 [(0, .ref 0)] [.int s0] σ := by
  unfold f_X11_wear_28 at h
  refine fhW.blk fhPF fhLL hΓ [(.istore_n 3, 0), (.iload_n 3, 0), (.iconst (-1), -1)] (pc' := 31) (lv' := [(3, .int s0), (0, .ref 0)]) (st' := [.int (-1 : Int32), .int s0]) (σ' := σ) (by decide +kernel) rfl rfl rfl ?_
  refine fhW.i_eq hΓ (tgt := 56) (show fhbk _ _ (.if_icmp .eq (25)) _ = true by decide +kernel) (fun hc => ?_) (fun hc => ?_)
  · rw [if_pos hc] at h
    refine fhW.sub (lv' := [(0, .ref 0)]) [1] rfl ?_
    exact L_X11_wear_56 hE hΓ hd σ _ h hk
  · rw [if_neg hc] at h
    refine fhW.blk fhPF fhLL hΓ [(.iload_n 3, 0), (.aload_n 0, 0), (.getfield 72, 0), (.getfield 208, 0)] (pc' := 42) (lv' := [(3, .int s0), (0, .ref 0)]) (st' := [.int (σ.1 56 9), .int s0]) (σ' := σ) (by decide +kernel) rfl rfl rfl ?_
    refine fhW.i_eq hΓ (tgt := 56) (show fhbk _ _ (.if_icmp .eq (14)) _ = true by decide +kernel) (fun hc => ?_) (fun hc => ?_)
    · rw [if_pos hc] at h
      refine fhW.sub (lv' := [(0, .ref 0)]) [1] rfl ?_
      exact L_X11_wear_56 hE hΓ hd σ _ h hk
    · rw [if_neg hc] at h
      refine fhW.blk fhPF fhLL hΓ [(.aload_n 0, 0), (.getfield 63, 0), (.iload_n 3, 0)] (pc' := 50) (lv' := [(3, .int s0), (0, .ref 0)]) (st' := [.int s0, .ref 39]) (σ' := σ) (by decide +kernel) rfl rfl rfl ?_
      refine fhW.callv hΓ mvX9_isAllowed ml_11_337 (t := 39) (ci := 9) (av := [.int s0]) (rest := []) (r := (some (.int (fhb (f_X9_isAllowed s0 σ))))) (σ' := σ) (T_X9_isAllowed (E := fhEn Γ) (d := fhD Γ - 1) hE (by omega) s0 σ) (by omega) (by decide +kernel) rfl rfl rfl (Nat.le_of_ble_eq_true rfl) rfl ?_
      show fhW fhYF Γ 53 [(3, .int s0), (0, .ref 0)] [.int (fhb (f_X9_isAllowed s0 σ))] σ
      refine fhW.b_ne hΓ (tgt := 64) (show fhbk _ _ (.ifCond .ne (11)) _ = true by decide +kernel) (fun hc => ?_) (fun hc => ?_)
      · rw [if_pos hc] at h
        refine fhW.blk fhPF fhLL hΓ [(.aload_n 0, 0), (.getfield 86, 0), (.aload_n 0, 0), (.getfield 72, 0)] (pc' := 72) (lv' := [(3, .int s0), (0, .ref 0)]) (st' := [.ref 56, .ref 93]) (σ' := σ) (by decide +kernel) rfl rfl rfl ?_
        obtain ⟨q1, hb1, h⟩ := Option.bind_eq_some_iff.mp h
        refine fhW.callv hΓ mvX6_save ml_11_318 (t := 93) (ci := 6) (av := [.ref 56]) (rest := []) (r := none) (σ' := q1) (T_X6_save (E := fhEn Γ) (d := fhD Γ - 1) hE (by omega) σ hb1) (by omega) (by decide +kernel) rfl rfl rfl (Nat.le_of_ble_eq_true rfl) rfl ?_
        show fhW fhYF Γ 75 [(3, .int s0), (0, .ref 0)] [] q1
        refine fhW.blk fhPF fhLL hΓ [(.aload_n 0, 0), (.getfield 72, 0), (.iload_n 3, 0)] (pc' := 80) (lv' := [(3, .int s0), (0, .ref 0)]) (st' := [.int s0, .ref 56]) (σ' := q1) (by decide +kernel) rfl rfl rfl ?_
        obtain ⟨q2, hb2, h⟩ := Option.bind_eq_some_iff.mp h
        refine fhW.callv hΓ mvX4_begin ml_11_142 (t := 56) (ci := 4) (av := [.int s0]) (rest := []) (r := none) (σ' := q2) (T_X4_begin (E := fhEn Γ) (d := fhD Γ - 1) hE (by omega) s0 q1 hb2) (by omega) (by decide +kernel) rfl rfl rfl (Nat.le_of_ble_eq_true rfl) rfl ?_
        show fhW fhYF Γ 83 [(3, .int s0), (0, .ref 0)] [] q2
        refine fhW.blk fhPF fhLL hΓ [(.iconst 1, 1)] (pc' := 84) (lv' := [(3, .int s0), (0, .ref 0)]) (st' := [.int (1 : Int32)]) (σ' := q2) (by decide +kernel) rfl rfl rfl ?_
        have e9 := Option.some.inj h
        subst e9
        exact fhW.zret (v := true) hΓ (by decide +kernel) hk
      · rw [if_neg hc] at h
        refine fhW.sub (lv' := [(0, .ref 0)]) [1] rfl ?_
        exact L_X11_wear_56 hE hΓ hd σ _ h hk
set_option maxRecDepth 100000 in
set_option maxHeartbeats 4000000 in
theorem L_X11_wear_E {Γ : fhX} (hE : fhEok fhYF (fhEn Γ)) (hΓ : fhOk fhYF 11 cX11_wear 4 (some .boolean) Γ) (hd : 5 ≤ fhD Γ) (v1 : Int32) (v2 : Int32)  (σ : fhM) (o : Bool × fhM) (h : f_X11_wear v1 v2 σ = some o) (hk : (fun o => fhRet Γ (some (.int (fhb o.1))) o.2) o) : fhW fhYF Γ 0 [(0, .ref 0), (1, .int v1), (2, .int v2)] [] σ := by
  unfold f_X11_wear at h
  refine fhW.blk fhPF fhLL hΓ [(.aload_n 0, 0), (.iload_n 1, 0)] (pc' := 2) (lv' := [(0, .ref 0), (1, .int v1), (2, .int v2)]) (st' := [.int v1, .ref 0]) (σ' := σ) (by decide +kernel) rfl rfl rfl ?_
  refine fhW.callv hΓ mvX11_isGuest ml_11_201 (t := 0) (ci := 11) (av := [.int v1]) (rest := []) (r := (some (.int (fhb (f_X11_isGuest v1 σ))))) (σ' := σ) (T_X11_isGuest (E := fhEn Γ) (d := fhD Γ - 1) hE (by omega) v1 σ) (by omega) (by decide +kernel) rfl rfl rfl (Nat.le_of_ble_eq_true rfl) rfl ?_
  show fhW fhYF Γ 5 [(0, .ref 0), (1, .int v1), (2, .int v2)] [.int (fhb (f_X11_isGuest v1 σ))] σ
  refine fhW.b_eq hΓ (tgt := 27) (show fhbk _ _ (.ifCond .eq (22)) _ = true by decide +kernel) (fun hc => ?_) (fun hc => ?_)
  · simp only [if_neg hc] at h
    refine fhW.blk fhPF fhLL hΓ [(.iconst (-1), -1)] (pc' := 28) (lv' := [(0, .ref 0), (1, .int v1), (2, .int v2)]) (st' := [.int (-1 : Int32)]) (σ' := σ) (by decide +kernel) rfl rfl rfl ?_
    refine fhW.sub (lv' := [(0, .ref 0)]) [0] rfl ?_
    exact L_X11_wear_28 hE hΓ hd (-1 : Int32) σ _ h hk
  · simp only [if_pos hc] at h
    refine fhW.blk fhPF fhLL hΓ [(.aload_n 0, 0), (.getfield 63, 0), (.aload_n 0, 0), (.getfield 72, 0), (.getfield 208, 0), (.iload_n 1, 0), (.iload_n 2, 0)] (pc' := 21) (lv' := [(0, .ref 0), (1, .int v1), (2, .int v2)]) (st' := [.int v2, .int v1, .int (σ.1 56 9), .ref 39]) (σ' := σ) (by decide +kernel) rfl rfl rfl ?_
    refine fhW.callv hΓ mvX9_withMark ml_11_333 (t := 39) (ci := 9) (av := [.int (σ.1 56 9), .int v1, .int v2]) (rest := []) (r := (some (.int (f_X9_withMark (σ.1 56 9) v1 v2 σ)))) (σ' := σ) (T_X9_withMark (E := fhEn Γ) (d := fhD Γ - 1) hE (by omega) (σ.1 56 9) v1 v2 σ) (by omega) (by decide +kernel) rfl rfl rfl (Nat.le_of_ble_eq_true rfl) rfl ?_
    show fhW fhYF Γ 24 [(0, .ref 0), (1, .int v1), (2, .int v2)] [.int (f_X9_withMark (σ.1 56 9) v1 v2 σ)] σ
    refine fhW.goto hΓ (off := 4) (tgt := 28) (by decide +kernel) ?_
    refine fhW.sub (lv' := [(0, .ref 0)]) [0] rfl ?_
    exact L_X11_wear_28 hE hΓ hd (f_X9_withMark (σ.1 56 9) v1 v2 σ) σ _ h hk
set_option maxRecDepth 100000 in
theorem T_X11_wear {E : fhE} {d : Nat} (hE : fhEok fhYF E) (hd : 5 ≤ d) (v1 : Int32) (v2 : Int32)  (σ : fhM) {o : Bool × fhM} (h : f_X11_wear v1 v2 σ = some o) : fhC fhYF E d miX11_wear [.ref 0, .int v1, .int v2] σ (some (.int (fhb o.1))) o.2 := by
  refine fhC.of (y := yX11_wear) (cc := cX11_wear) (nL := 4) (ret := (some .boolean)) 11 rfl (by decide +kernel) (Nat.le_of_ble_eq_true rfl) ?_
  intro Γ hΓ hR hD hEn
  subst hD; subst hEn
  exact L_X11_wear_E hE hΓ hd v1 v2  σ _ h hR

