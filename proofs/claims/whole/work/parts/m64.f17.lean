set_option maxRecDepth 100000 in
set_option maxHeartbeats 4000000 in
theorem L_X1_noteKnowers_83 {Γ : fhX} (hE : fhEok fhYF (fhEn Γ)) (hΓ : fhOk fhYF 1 cX1_noteKnowers 8 none Γ) (hd : 1 ≤ fhD Γ) (v2 : Int32) (v3 : Int32) (v4 : Int32) (v5 : Int32) (v6 : Int32)  (σ : fhM) (o : (Int32 × fhM) ⊕ ((Int32 × fhM) ⊕ (fhM))) (h : f_X1_noteKnowers_83 v2 v3 v4 v5 v6 σ = some o) (hk : (fhK (fun x => fhW fhYF Γ 23 [(0, .ref 76), (2, .int v2), (3, .int v3), (4, .int v4), (5, .int v5), (6, .int x.1)] [] x.2) (fhK (fun x => fhW fhYF Γ 3 [(0, .ref 76), (2, .int v2), (3, .int v3), (4, .int x.1)] [] x.2) (fun o => fhRet Γ none o))) o) : fhW fhYF Γ 83 [(0, .ref 76), (2, .int v2), (3, .int v3), (4, .int v4), (5, .int v5), (6, .int v6)] [] σ := by
  unfold f_X1_noteKnowers_83 at h
  refine fhW.blk fhPF fhLL hΓ [(.iinc 6 1, 1)] (pc' := 86) (lv' := [(6, .int (v6 + (1 : Int32))), (0, .ref 76), (2, .int v2), (3, .int v3), (4, .int v4), (5, .int v5)]) (st' := []) (σ' := σ) (by decide +kernel) rfl rfl rfl ?_
  refine fhW.goto hΓ (off := (-63)) (tgt := 23) (by decide +kernel) ?_
  refine fhW.sub (lv' := [(0, .ref 76), (2, .int v2), (3, .int v3), (4, .int v4), (5, .int v5), (6, .int (v6 + (1 : Int32)))]) [1, 2, 3, 4, 5, 0] rfl ?_
  have e9 := Option.some.inj h
  subst e9
  exact hk
set_option maxRecDepth 100000 in
set_option maxHeartbeats 4000000 in
theorem L_X1_noteKnowers_23 {Γ : fhX} (hE : fhEok fhYF (fhEn Γ)) (hΓ : fhOk fhYF 1 cX1_noteKnowers 8 none Γ) (hd : 1 ≤ fhD Γ) (v2 : Int32) (v3 : Int32) (v4 : Int32) (v5 : Int32) (v6 : Int32)  (σ : fhM) (o : (Int32 × fhM) ⊕ ((Int32 × fhM) ⊕ (fhM))) (h : f_X1_noteKnowers_23 v2 v3 v4 v5 v6 σ = some o) (hk : (fhK (fun x => fhW fhYF Γ 23 [(0, .ref 76), (2, .int v2), (3, .int v3), (4, .int v4), (5, .int v5), (6, .int x.1)] [] x.2) (fhK (fun x => fhW fhYF Γ 3 [(0, .ref 76), (2, .int v2), (3, .int v3), (4, .int x.1)] [] x.2) (fun o => fhRet Γ none o))) o) : fhW fhYF Γ 23 [(0, .ref 76), (2, .int v2), (3, .int v3), (4, .int v4), (5, .int v5), (6, .int v6)] [] σ := by
  unfold f_X1_noteKnowers_23 at h
  refine fhW.blk fhPF fhLL hΓ [(.iload 6, 0), (.aload_n 0, 0), (.getfield 41, 0), (.getfield 92, 0)] (pc' := 32) (lv' := [(0, .ref 76), (2, .int v2), (3, .int v3), (4, .int v4), (5, .int v5), (6, .int v6)]) (st' := [.int (σ.1 39 9), .int v6]) (σ' := σ) (by decide +kernel) rfl rfl rfl ?_
  refine fhW.i_ge hΓ (tgt := 89) (show fhbk _ _ (.if_icmp .ge (57)) _ = true by decide +kernel) (fun hc => ?_) (fun hc => ?_)
  · rw [if_pos hc] at h
    refine fhW.blk fhPF fhLL hΓ [(.iinc 4 1, 1)] (pc' := 92) (lv' := [(4, .int (v4 + (1 : Int32))), (0, .ref 76), (2, .int v2), (3, .int v3), (5, .int v5), (6, .int v6)]) (st' := []) (σ' := σ) (by decide +kernel) rfl rfl rfl ?_
    refine fhW.goto hΓ (off := (-89)) (tgt := 3) (by decide +kernel) ?_
    refine fhW.sub (lv' := [(0, .ref 76), (2, .int v2), (3, .int v3), (4, .int (v4 + (1 : Int32)))]) [1, 2, 3, 0] rfl ?_
    have e9 := Option.some.inj h
    subst e9
    exact hk
  · rw [if_neg hc] at h
    refine fhW.blk fhPF fhLL hΓ [(.iload 5, 0), (.iconst 5, 5), (.imul, 0), (.iload 6, 0), (.iadd, 0), (.istore 7, 0), (.aload_n 0, 0), (.getfield 29, 0), (.iload 5, 0)] (pc' := 50) (lv' := [(7, .int ((v5 * (5 : Int32)) + v6)), (0, .ref 76), (2, .int v2), (3, .int v3), (4, .int v4), (5, .int v5), (6, .int v6)]) (st' := [.int v5, .ref 85]) (σ' := σ) (by decide +kernel) rfl rfl rfl ?_
    refine fhW.callv hΓ mvX2_get ml_1_70 (t := 85) (ci := 2) (av := [.int v5]) (rest := []) (r := (some (.int (fcG σ 85 v5)))) (σ' := σ) (T_X2_get (E := fhEn Γ) (d := fhD Γ - 1) hE (by omega) 85 v5 rfl σ) (by omega) (by decide +kernel) rfl rfl rfl (Nat.le_of_ble_eq_true rfl) rfl ?_
    show fhW fhYF Γ 53 [(7, .int ((v5 * (5 : Int32)) + v6)), (0, .ref 76), (2, .int v2), (3, .int v3), (4, .int v4), (5, .int v5), (6, .int v6)] [.int (fcG σ 85 v5)] σ
    refine fhW.blk fhPF fhLL hΓ [(.iload 6, 0), (.ishr, 0), (.iconst 1, 1), (.iand, 0)] (pc' := 58) (lv' := [(7, .int ((v5 * (5 : Int32)) + v6)), (0, .ref 76), (2, .int v2), (3, .int v3), (4, .int v4), (5, .int v5), (6, .int v6)]) (st' := [.int (((fcG σ 85 v5) >>> (v6 &&& 31)) &&& (1 : Int32))]) (σ' := σ) (by decide +kernel) rfl rfl rfl ?_
    refine fhW.z_eq hΓ (tgt := 83) (show fhbk _ _ (.ifCond .eq (25)) _ = true by decide +kernel) (fun hc => ?_) (fun hc => ?_)
    · rw [if_pos hc] at h
      refine fhW.sub (lv' := [(0, .ref 76), (2, .int v2), (3, .int v3), (4, .int v4), (5, .int v5), (6, .int v6)]) [1, 2, 3, 4, 5, 6] rfl ?_
      exact L_X1_noteKnowers_83 hE hΓ hd v2 v3 v4 v5 v6 σ _ h hk
    · rw [if_neg hc] at h
      refine fhW.blk fhPF fhLL hΓ [(.aload_n 0, 0), (.getfield 32, 0), (.iload 7, 0), (.aload_n 0, 0), (.getfield 32, 0), (.iload 7, 0)] (pc' := 73) (lv' := [(7, .int ((v5 * (5 : Int32)) + v6)), (0, .ref 76), (2, .int v2), (3, .int v3), (4, .int v4), (5, .int v5), (6, .int v6)]) (st' := [.int ((v5 * (5 : Int32)) + v6), .ref 87, .int ((v5 * (5 : Int32)) + v6), .ref 87]) (σ' := σ) (by decide +kernel) rfl rfl rfl ?_
      refine fhW.callv hΓ mvX2_get ml_1_70 (t := 87) (ci := 2) (av := [.int ((v5 * (5 : Int32)) + v6)]) (rest := [.int ((v5 * (5 : Int32)) + v6), .ref 87]) (r := (some (.int (fcG σ 87 ((v5 * (5 : Int32)) + v6))))) (σ' := σ) (T_X2_get (E := fhEn Γ) (d := fhD Γ - 1) hE (by omega) 87 ((v5 * (5 : Int32)) + v6) rfl σ) (by omega) (by decide +kernel) rfl rfl rfl (Nat.le_of_ble_eq_true rfl) rfl ?_
      show fhW fhYF Γ 76 [(7, .int ((v5 * (5 : Int32)) + v6)), (0, .ref 76), (2, .int v2), (3, .int v3), (4, .int v4), (5, .int v5), (6, .int v6)] [.int (fcG σ 87 ((v5 * (5 : Int32)) + v6)), .int ((v5 * (5 : Int32)) + v6), .ref 87] σ
      refine fhW.blk fhPF fhLL hΓ [(.iload_n 3, 0)] (pc' := 77) (lv' := [(7, .int ((v5 * (5 : Int32)) + v6)), (0, .ref 76), (2, .int v2), (3, .int v3), (4, .int v4), (5, .int v5), (6, .int v6)]) (st' := [.int v3, .int (fcG σ 87 ((v5 * (5 : Int32)) + v6)), .int ((v5 * (5 : Int32)) + v6), .ref 87]) (σ' := σ) (by decide +kernel) rfl rfl rfl ?_
      refine fhW.calls hΓ msJ9_min_7cf53 ml_1_95 (av := [.int (fcG σ 87 ((v5 * (5 : Int32)) + v6)), .int v3]) (rest := [.int ((v5 * (5 : Int32)) + v6), .ref 87]) (r := (some (.int (f_J9_min_7cf53 (fcG σ 87 ((v5 * (5 : Int32)) + v6)) v3 σ)))) (σ' := σ) (T_J9_min_7cf53 (E := fhEn Γ) (d := fhD Γ - 1) hE (by omega) (fcG σ 87 ((v5 * (5 : Int32)) + v6)) v3 σ) (by omega) (by decide +kernel) rfl (Nat.le_of_ble_eq_true rfl) rfl ?_
      show fhW fhYF Γ 80 [(7, .int ((v5 * (5 : Int32)) + v6)), (0, .ref 76), (2, .int v2), (3, .int v3), (4, .int v4), (5, .int v5), (6, .int v6)] [.int (f_J9_min_7cf53 (fcG σ 87 ((v5 * (5 : Int32)) + v6)) v3 σ), .int ((v5 * (5 : Int32)) + v6), .ref 87] σ
      refine fhW.callv hΓ mvX2_put ml_1_74 (t := 87) (ci := 2) (av := [.int ((v5 * (5 : Int32)) + v6), .int (f_J9_min_7cf53 (fcG σ 87 ((v5 * (5 : Int32)) + v6)) v3 σ)]) (rest := []) (r := none) (σ' := (fcP σ 87 ((v5 * (5 : Int32)) + v6) (f_J9_min_7cf53 (fcG σ 87 ((v5 * (5 : Int32)) + v6)) v3 σ))) (T_X2_put (E := fhEn Γ) (d := fhD Γ - 1) hE (by omega) 87 ((v5 * (5 : Int32)) + v6) (f_J9_min_7cf53 (fcG σ 87 ((v5 * (5 : Int32)) + v6)) v3 σ) rfl σ) (by omega) (by decide +kernel) rfl rfl rfl (Nat.le_of_ble_eq_true rfl) rfl ?_
      show fhW fhYF Γ 83 [(7, .int ((v5 * (5 : Int32)) + v6)), (0, .ref 76), (2, .int v2), (3, .int v3), (4, .int v4), (5, .int v5), (6, .int v6)] [] (fcP σ 87 ((v5 * (5 : Int32)) + v6) (f_J9_min_7cf53 (fcG σ 87 ((v5 * (5 : Int32)) + v6)) v3 σ))
      refine fhW.sub (lv' := [(0, .ref 76), (2, .int v2), (3, .int v3), (4, .int v4), (5, .int v5), (6, .int v6)]) [1, 2, 3, 4, 5, 6] rfl ?_
      exact L_X1_noteKnowers_83 hE hΓ hd v2 v3 v4 v5 v6 (fcP σ 87 ((v5 * (5 : Int32)) + v6) (f_J9_min_7cf53 (fcG σ 87 ((v5 * (5 : Int32)) + v6)) v3 σ)) _ h hk
set_option maxRecDepth 100000 in
set_option maxHeartbeats 4000000 in
theorem L_X1_noteKnowers_3 {Γ : fhX} (hE : fhEok fhYF (fhEn Γ)) (hΓ : fhOk fhYF 1 cX1_noteKnowers 8 none Γ) (hd : 1 ≤ fhD Γ) (v2 : Int32) (v3 : Int32) (v4 : Int32)  (σ : fhM) (o : (Int32 × fhM) ⊕ (fhM)) (h : f_X1_noteKnowers_3 v2 v3 v4 σ = some o) (hk : (fhK (fun x => fhW fhYF Γ 3 [(0, .ref 76), (2, .int v2), (3, .int v3), (4, .int x.1)] [] x.2) (fun o => fhRet Γ none o)) o) : fhW fhYF Γ 3 [(0, .ref 76), (2, .int v2), (3, .int v3), (4, .int v4)] [] σ := by
  unfold f_X1_noteKnowers_3 at h
  refine fhW.blk fhPF fhLL hΓ [(.iload 4, 0), (.iload_n 2, 0)] (pc' := 6) (lv' := [(0, .ref 76), (2, .int v2), (3, .int v3), (4, .int v4)]) (st' := [.int v2, .int v4]) (σ' := σ) (by decide +kernel) rfl rfl rfl ?_
  refine fhW.i_ge hΓ (tgt := 95) (show fhbk _ _ (.if_icmp .ge (89)) _ = true by decide +kernel) (fun hc => ?_) (fun hc => ?_)
  · rw [if_pos hc] at h
    have e9 := Option.some.inj h
    subst e9
    exact fhW.vret hΓ (by decide +kernel) hk
  · rw [if_neg hc] at h
    refine fhW.blk fhPF fhLL hΓ [(.aload_n 0, 0), (.getfield 14, 0), (.iload 4, 0)] (pc' := 15) (lv' := [(0, .ref 76), (2, .int v2), (3, .int v3), (4, .int v4)]) (st' := [.int v4, .ref (σ.2.2 76 1)]) (σ' := σ) (by decide +kernel) rfl rfl rfl ?_
    obtain ⟨hy1, h⟩ := fhif h
    refine fhW.callv hΓ mvX2_get ml_1_70 (t := (σ.2.2 76 1)) (ci := 2) (av := [.int v4]) (rest := []) (r := (some (.int (fcG σ (σ.2.2 76 1) v4)))) (σ' := σ) (T_X2_get (E := fhEn Γ) (d := fhD Γ - 1) hE (by omega) (σ.2.2 76 1) v4 hy1 σ) (by omega) (by decide +kernel) rfl (fhiC_g hy1) rfl (Nat.le_of_ble_eq_true rfl) rfl ?_
    show fhW fhYF Γ 18 [(0, .ref 76), (2, .int v2), (3, .int v3), (4, .int v4)] [.int (fcG σ (σ.2.2 76 1) v4)] σ
    refine fhW.blk fhPF fhLL hΓ [(.istore 5, 0), (.iconst 0, 0), (.istore 6, 0)] (pc' := 23) (lv' := [(6, .int (0 : Int32)), (5, .int (fcG σ (σ.2.2 76 1) v4)), (0, .ref 76), (2, .int v2), (3, .int v3), (4, .int v4)]) (st' := []) (σ' := σ) (by decide +kernel) rfl rfl rfl ?_
    refine fhW.sub (lv' := [(0, .ref 76), (2, .int v2), (3, .int v3), (4, .int v4), (5, .int (fcG σ (σ.2.2 76 1) v4)), (6, .int (0 : Int32))]) [2, 3, 4, 5, 1, 0] rfl ?_
    exact fhlp_ok (W := (fun x => fhW fhYF Γ 23 [(0, .ref 76), (2, .int v2), (3, .int v3), (4, .int v4), (5, .int (fcG σ (σ.2.2 76 1) v4)), (6, .int x.1)] [] x.2)) (B := (fhK (fun x => fhW fhYF Γ 3 [(0, .ref 76), (2, .int v2), (3, .int v3), (4, .int x.1)] [] x.2) (fun o => fhRet Γ none o))) (fun x o h hk => L_X1_noteKnowers_23 hE hΓ hd v2 v3 v4 (fcG σ (σ.2.2 76 1) v4) x.1 x.2 o h hk) ((0 : Int32), σ) _ h hk
set_option maxRecDepth 100000 in
set_option maxHeartbeats 4000000 in
theorem L_X1_noteKnowers_E {Γ : fhX} (hE : fhEok fhYF (fhEn Γ)) (hΓ : fhOk fhYF 1 cX1_noteKnowers 8 none Γ) (hd : 1 ≤ fhD Γ) (v1 : Int32) (v2 : Int32) (v3 : Int32)  (σ : fhM) (o : fhM) (h : f_X1_noteKnowers v1 v2 v3 σ = some o) (hk : (fun o => fhRet Γ none o) o) : fhW fhYF Γ 0 [(0, .ref 76), (1, .int v1), (2, .int v2), (3, .int v3)] [] σ := by
  unfold f_X1_noteKnowers at h
  refine fhW.blk fhPF fhLL hΓ [(.iload_n 1, 0), (.istore 4, 0)] (pc' := 3) (lv' := [(4, .int v1), (0, .ref 76), (1, .int v1), (2, .int v2), (3, .int v3)]) (st' := []) (σ' := σ) (by decide +kernel) rfl rfl rfl ?_
  refine fhW.sub (lv' := [(0, .ref 76), (2, .int v2), (3, .int v3), (4, .int v1)]) [1, 3, 4, 0] rfl ?_
  exact fhlp_ok (W := (fun x => fhW fhYF Γ 3 [(0, .ref 76), (2, .int v2), (3, .int v3), (4, .int x.1)] [] x.2)) (B := (fun o => fhRet Γ none o)) (fun x o h hk => L_X1_noteKnowers_3 hE hΓ hd v2 v3 x.1 x.2 o h hk) (v1, σ) _ h hk
set_option maxRecDepth 100000 in
theorem T_X1_noteKnowers {E : fhE} {d : Nat} (hE : fhEok fhYF E) (hd : 1 ≤ d) (v1 : Int32) (v2 : Int32) (v3 : Int32)  (σ : fhM) {o : fhM} (h : f_X1_noteKnowers v1 v2 v3 σ = some o) : fhC fhYF E d miX1_noteKnowers [.ref 76, .int v1, .int v2, .int v3] σ none o := by
  refine fhC.of (y := yX1_noteKnowers) (cc := cX1_noteKnowers) (nL := 8) (ret := none) 1 rfl (by decide +kernel) (Nat.le_of_ble_eq_true rfl) ?_
  intro Γ hΓ hR hD hEn
  subst hD; subst hEn
  exact L_X1_noteKnowers_E hE hΓ hd v1 v2 v3  σ _ h hR
set_option maxRecDepth 100000 in
set_option maxHeartbeats 4000000 in
theorem L_X1_splitGroup_109 {Γ : fhX} (hE : fhEok fhYF (fhEn Γ)) (hΓ : fhOk fhYF 1 cX1_splitGroup 8 none Γ) (hd : 1 ≤ fhD Γ) (v1 : Int32) (v2 : Int32) (v3 : Int32) (v4 : Int32)  (σ : fhM) (o : (Int32 × Int32 × fhM) ⊕ (fhM)) (h : f_X1_splitGroup_109 v1 v2 v3 v4 σ = some o) (hk : (fhK (fun x => fhW fhYF Γ 5 [(0, .ref 76), (1, .int v1), (2, .int v2), (3, .int x.1), (4, .int x.2.1)] [] x.2.2) (fun o => fhRet Γ none o)) o) : fhW fhYF Γ 109 [(0, .ref 76), (1, .int v1), (2, .int v2), (3, .int v3), (4, .int v4)] [] σ := by
  unfold f_X1_splitGroup_109 at h
  refine fhW.blk fhPF fhLL hΓ [(.iinc 4 1, 1)] (pc' := 112) (lv' := [(4, .int (v4 + (1 : Int32))), (0, .ref 76), (1, .int v1), (2, .int v2), (3, .int v3)]) (st' := []) (σ' := σ) (by decide +kernel) rfl rfl rfl ?_
  refine fhW.goto hΓ (off := (-107)) (tgt := 5) (by decide +kernel) ?_
  refine fhW.sub (lv' := [(0, .ref 76), (1, .int v1), (2, .int v2), (3, .int v3), (4, .int (v4 + (1 : Int32)))]) [1, 2, 3, 4, 0] rfl ?_
  have e9 := Option.some.inj h
  subst e9
  exact hk
set_option maxRecDepth 100000 in
set_option maxHeartbeats 4000000 in
theorem L_X1_splitGroup_74 {Γ : fhX} (hE : fhEok fhYF (fhEn Γ)) (hΓ : fhOk fhYF 1 cX1_splitGroup 8 none Γ) (hd : 1 ≤ fhD Γ) (v1 : Int32) (v2 : Int32) (v3 : Int32) (v4 : Int32) (v5 : Int32) (v6 : Int32)  (σ : fhM) (o : (Int32 × Int32 × fhM) ⊕ ((Int32 × Int32 × fhM) ⊕ (fhM))) (h : f_X1_splitGroup_74 v1 v2 v3 v4 v5 v6 σ = some o) (hk : (fhK (fun x => fhW fhYF Γ 30 [(0, .ref 76), (1, .int v1), (2, .int v2), (3, .int x.1), (4, .int v4), (5, .int v5), (6, .int x.2.1)] [] x.2.2) (fhK (fun x => fhW fhYF Γ 5 [(0, .ref 76), (1, .int v1), (2, .int v2), (3, .int x.1), (4, .int x.2.1)] [] x.2.2) (fun o => fhRet Γ none o))) o) : fhW fhYF Γ 74 [(0, .ref 76), (1, .int v1), (2, .int v2), (3, .int v3), (4, .int v4), (5, .int v5), (6, .int v6)] [] σ := by
  unfold f_X1_splitGroup_74 at h
  refine fhW.blk fhPF fhLL hΓ [(.iinc 6 1, 1)] (pc' := 77) (lv' := [(6, .int (v6 + (1 : Int32))), (0, .ref 76), (1, .int v1), (2, .int v2), (3, .int v3), (4, .int v4), (5, .int v5)]) (st' := []) (σ' := σ) (by decide +kernel) rfl rfl rfl ?_
  refine fhW.goto hΓ (off := (-47)) (tgt := 30) (by decide +kernel) ?_
  refine fhW.sub (lv' := [(0, .ref 76), (1, .int v1), (2, .int v2), (3, .int v3), (4, .int v4), (5, .int v5), (6, .int (v6 + (1 : Int32)))]) [1, 2, 3, 4, 5, 6, 0] rfl ?_
  have e9 := Option.some.inj h
  subst e9
  exact hk
set_option maxRecDepth 100000 in
set_option maxHeartbeats 4000000 in
theorem L_X1_splitGroup_30 {Γ : fhX} (hE : fhEok fhYF (fhEn Γ)) (hΓ : fhOk fhYF 1 cX1_splitGroup 8 none Γ) (hd : 1 ≤ fhD Γ) (v1 : Int32) (v2 : Int32) (v3 : Int32) (v4 : Int32) (v5 : Int32) (v6 : Int32)  (σ : fhM) (o : (Int32 × Int32 × fhM) ⊕ ((Int32 × Int32 × fhM) ⊕ (fhM))) (h : f_X1_splitGroup_30 v1 v2 v3 v4 v5 v6 σ = some o) (hk : (fhK (fun x => fhW fhYF Γ 30 [(0, .ref 76), (1, .int v1), (2, .int v2), (3, .int x.1), (4, .int v4), (5, .int v5), (6, .int x.2.1)] [] x.2.2) (fhK (fun x => fhW fhYF Γ 5 [(0, .ref 76), (1, .int v1), (2, .int v2), (3, .int x.1), (4, .int x.2.1)] [] x.2.2) (fun o => fhRet Γ none o))) o) : fhW fhYF Γ 30 [(0, .ref 76), (1, .int v1), (2, .int v2), (3, .int v3), (4, .int v4), (5, .int v5), (6, .int v6)] [] σ := by
  unfold f_X1_splitGroup_30 at h
  refine fhW.blk fhPF fhLL hΓ [(.iload 6, 0), (.iload_n 2, 0)] (pc' := 33) (lv' := [(0, .ref 76), (1, .int v1), (2, .int v2), (3, .int v3), (4, .int v4), (5, .int v5), (6, .int v6)]) (st' := [.int v2, .int v6]) (σ' := σ) (by decide +kernel) rfl rfl rfl ?_
  refine fhW.i_ge hΓ (tgt := 80) (show fhbk _ _ (.if_icmp .ge (47)) _ = true by decide +kernel) (fun hc => ?_) (fun hc => ?_)
  · rw [if_pos hc] at h
    refine fhW.blk fhPF fhLL hΓ [(.iload_n 3, 0), (.iload 5, 0)] (pc' := 83) (lv' := [(0, .ref 76), (1, .int v1), (2, .int v2), (3, .int v3), (4, .int v4), (5, .int v5), (6, .int v6)]) (st' := [.int v5, .int v3]) (σ' := σ) (by decide +kernel) rfl rfl rfl ?_
    refine fhW.i_le hΓ (tgt := 109) (show fhbk _ _ (.if_icmp .le (26)) _ = true by decide +kernel) (fun hc => ?_) (fun hc => ?_)
    · rw [if_pos hc] at h
      refine fhW.sub (lv' := [(0, .ref 76), (1, .int v1), (2, .int v2), (3, .int v3), (4, .int v4)]) [0, 1, 2, 3, 4] rfl ?_
      obtain ⟨z1, hz, e1⟩ := Option.map_eq_some_iff.mp h
      clear h
      subst e1
      have h := hz
      have hk : (fhK (fun x => fhW fhYF Γ 5 [(0, .ref 76), (1, .int v1), (2, .int v2), (3, .int x.1), (4, .int x.2.1)] [] x.2.2) (fun o => fhRet Γ none o)) z1 := hk
      exact L_X1_splitGroup_109 hE hΓ hd v1 v2 v3 v4 σ _ h hk
    · rw [if_neg hc] at h
      refine fhW.blk fhPF fhLL hΓ [(.aload_n 0, 0), (.getfield 26, 0), (.aload_n 0, 0), (.getfield 78, 0), (.iload 5, 0)] (pc' := 96) (lv' := [(0, .ref 76), (1, .int v1), (2, .int v2), (3, .int v3), (4, .int v4), (5, .int v5), (6, .int v6)]) (st' := [.int v5, .int (σ.1 76 6), .ref (σ.2.2 76 4)]) (σ' := σ) (by decide +kernel) rfl rfl rfl ?_
      obtain ⟨hy1, h⟩ := fhif h
      refine fhW.callv hΓ mvX2_put ml_1_74 (t := (σ.2.2 76 4)) (ci := 2) (av := [.int (σ.1 76 6), .int v5]) (rest := []) (r := none) (σ' := (fcP σ (σ.2.2 76 4) (σ.1 76 6) v5)) (T_X2_put (E := fhEn Γ) (d := fhD Γ - 1) hE (by omega) (σ.2.2 76 4) (σ.1 76 6) v5 hy1 σ) (by omega) (by decide +kernel) rfl (fhiC_g hy1) rfl (Nat.le_of_ble_eq_true rfl) rfl ?_
      show fhW fhYF Γ 99 [(0, .ref 76), (1, .int v1), (2, .int v2), (3, .int v3), (4, .int v4), (5, .int v5), (6, .int v6)] [] (fcP σ (σ.2.2 76 4) (σ.1 76 6) v5)
      refine fhW.blk fhPF fhLL hΓ [(.aload_n 0, 0), (.dup, 0), (.getfield 78, 0), (.iconst 1, 1), (.iadd, 0), (.putfield 78, 0)] (pc' := 109) (lv' := [(0, .ref 76), (1, .int v1), (2, .int v2), (3, .int v3), (4, .int v4), (5, .int v5), (6, .int v6)]) (st' := []) (σ' := (fhI (fcP σ (σ.2.2 76 4) (σ.1 76 6) v5) 76 6 (((fcP σ (σ.2.2 76 4) (σ.1 76 6) v5).1 76 6) + (1 : Int32)))) (by decide +kernel) rfl rfl rfl ?_
      refine fhW.sub (lv' := [(0, .ref 76), (1, .int v1), (2, .int v2), (3, .int v3), (4, .int v4)]) [0, 1, 2, 3, 4] rfl ?_
      obtain ⟨z2, hz, e2⟩ := Option.map_eq_some_iff.mp h
      clear h
      subst e2
      have h := hz
      have hk : (fhK (fun x => fhW fhYF Γ 5 [(0, .ref 76), (1, .int v1), (2, .int v2), (3, .int x.1), (4, .int x.2.1)] [] x.2.2) (fun o => fhRet Γ none o)) z2 := hk
      exact L_X1_splitGroup_109 hE hΓ hd v1 v2 v3 v4 (fhI (fcP σ (σ.2.2 76 4) (σ.1 76 6) v5) 76 6 (((fcP σ (σ.2.2 76 4) (σ.1 76 6) v5).1 76 6) + (1 : Int32))) _ h hk
  · rw [if_neg hc] at h
    refine fhW.blk fhPF fhLL hΓ [(.aload_n 0, 0), (.getfield 14, 0), (.iload 6, 0)] (pc' := 42) (lv' := [(0, .ref 76), (1, .int v1), (2, .int v2), (3, .int v3), (4, .int v4), (5, .int v5), (6, .int v6)]) (st' := [.int v6, .ref (σ.2.2 76 1)]) (σ' := σ) (by decide +kernel) rfl rfl rfl ?_
    obtain ⟨hy2, h⟩ := fhif h
    refine fhW.callv hΓ mvX2_get ml_1_70 (t := (σ.2.2 76 1)) (ci := 2) (av := [.int v6]) (rest := []) (r := (some (.int (fcG σ (σ.2.2 76 1) v6)))) (σ' := σ) (T_X2_get (E := fhEn Γ) (d := fhD Γ - 1) hE (by omega) (σ.2.2 76 1) v6 hy2 σ) (by omega) (by decide +kernel) rfl (fhiC_g hy2) rfl (Nat.le_of_ble_eq_true rfl) rfl ?_
    show fhW fhYF Γ 45 [(0, .ref 76), (1, .int v1), (2, .int v2), (3, .int v3), (4, .int v4), (5, .int v5), (6, .int v6)] [.int (fcG σ (σ.2.2 76 1) v6)] σ
    refine fhW.blk fhPF fhLL hΓ [(.istore 7, 0), (.aload_n 0, 0), (.getfield 29, 0), (.iload 7, 0)] (pc' := 53) (lv' := [(7, .int (fcG σ (σ.2.2 76 1) v6)), (0, .ref 76), (1, .int v1), (2, .int v2), (3, .int v3), (4, .int v4), (5, .int v5), (6, .int v6)]) (st' := [.int (fcG σ (σ.2.2 76 1) v6), .ref 85]) (σ' := σ) (by decide +kernel) rfl rfl rfl ?_
    refine fhW.callv hΓ mvX2_get ml_1_70 (t := 85) (ci := 2) (av := [.int (fcG σ (σ.2.2 76 1) v6)]) (rest := []) (r := (some (.int (fcG σ 85 (fcG σ (σ.2.2 76 1) v6))))) (σ' := σ) (T_X2_get (E := fhEn Γ) (d := fhD Γ - 1) hE (by omega) 85 (fcG σ (σ.2.2 76 1) v6) rfl σ) (by omega) (by decide +kernel) rfl rfl rfl (Nat.le_of_ble_eq_true rfl) rfl ?_
    show fhW fhYF Γ 56 [(7, .int (fcG σ (σ.2.2 76 1) v6)), (0, .ref 76), (1, .int v1), (2, .int v2), (3, .int v3), (4, .int v4), (5, .int v5), (6, .int v6)] [.int (fcG σ 85 (fcG σ (σ.2.2 76 1) v6))] σ
    refine fhW.blk fhPF fhLL hΓ [(.iload 4, 0)] (pc' := 58) (lv' := [(7, .int (fcG σ (σ.2.2 76 1) v6)), (0, .ref 76), (1, .int v1), (2, .int v2), (3, .int v3), (4, .int v4), (5, .int v5), (6, .int v6)]) (st' := [.int v4, .int (fcG σ 85 (fcG σ (σ.2.2 76 1) v6))]) (σ' := σ) (by decide +kernel) rfl rfl rfl ?_
    refine fhW.i_ne hΓ (tgt := 74) (show fhbk _ _ (.if_icmp .ne (16)) _ = true by decide +kernel) (fun hc => ?_) (fun hc => ?_)
    · rw [if_neg hc] at h
      refine fhW.sub (lv' := [(0, .ref 76), (1, .int v1), (2, .int v2), (3, .int v3), (4, .int v4), (5, .int v5), (6, .int v6)]) [1, 2, 3, 4, 5, 6, 7] rfl ?_
      exact L_X1_splitGroup_74 hE hΓ hd v1 v2 v3 v4 v5 v6 σ _ h hk
    · rw [if_pos hc] at h
      refine fhW.blk fhPF fhLL hΓ [(.aload_n 0, 0), (.getfield 20, 0), (.iload_n 3, 0), (.iload 7, 0)] (pc' := 68) (lv' := [(7, .int (fcG σ (σ.2.2 76 1) v6)), (0, .ref 76), (1, .int v1), (2, .int v2), (3, .int v3), (4, .int v4), (5, .int v5), (6, .int v6)]) (st' := [.int (fcG σ (σ.2.2 76 1) v6), .int v3, .ref (σ.2.2 76 2)]) (σ' := σ) (by decide +kernel) rfl rfl rfl ?_
      obtain ⟨hy3, h⟩ := fhif h
      refine fhW.callv hΓ mvX2_put ml_1_74 (t := (σ.2.2 76 2)) (ci := 2) (av := [.int v3, .int (fcG σ (σ.2.2 76 1) v6)]) (rest := []) (r := none) (σ' := (fcP σ (σ.2.2 76 2) v3 (fcG σ (σ.2.2 76 1) v6))) (T_X2_put (E := fhEn Γ) (d := fhD Γ - 1) hE (by omega) (σ.2.2 76 2) v3 (fcG σ (σ.2.2 76 1) v6) hy3 σ) (by omega) (by decide +kernel) rfl (fhiC_g hy3) rfl (Nat.le_of_ble_eq_true rfl) rfl ?_
      show fhW fhYF Γ 71 [(7, .int (fcG σ (σ.2.2 76 1) v6)), (0, .ref 76), (1, .int v1), (2, .int v2), (3, .int v3), (4, .int v4), (5, .int v5), (6, .int v6)] [] (fcP σ (σ.2.2 76 2) v3 (fcG σ (σ.2.2 76 1) v6))
      refine fhW.blk fhPF fhLL hΓ [(.iinc 3 1, 1)] (pc' := 74) (lv' := [(3, .int (v3 + (1 : Int32))), (7, .int (fcG σ (σ.2.2 76 1) v6)), (0, .ref 76), (1, .int v1), (2, .int v2), (4, .int v4), (5, .int v5), (6, .int v6)]) (st' := []) (σ' := (fcP σ (σ.2.2 76 2) v3 (fcG σ (σ.2.2 76 1) v6))) (by decide +kernel) rfl rfl rfl ?_
      refine fhW.sub (lv' := [(0, .ref 76), (1, .int v1), (2, .int v2), (3, .int (v3 + (1 : Int32))), (4, .int v4), (5, .int v5), (6, .int v6)]) [2, 3, 4, 0, 5, 6, 7] rfl ?_
      exact L_X1_splitGroup_74 hE hΓ hd v1 v2 (v3 + (1 : Int32)) v4 v5 v6 (fcP σ (σ.2.2 76 2) v3 (fcG σ (σ.2.2 76 1) v6)) _ h hk
set_option maxRecDepth 100000 in
set_option maxHeartbeats 4000000 in
theorem L_X1_splitGroup_5 {Γ : fhX} (hE : fhEok fhYF (fhEn Γ)) (hΓ : fhOk fhYF 1 cX1_splitGroup 8 none Γ) (hd : 1 ≤ fhD Γ) (v1 : Int32) (v2 : Int32) (v3 : Int32) (v4 : Int32)  (σ : fhM) (o : (Int32 × Int32 × fhM) ⊕ (fhM)) (h : f_X1_splitGroup_5 v1 v2 v3 v4 σ = some o) (hk : (fhK (fun x => fhW fhYF Γ 5 [(0, .ref 76), (1, .int v1), (2, .int v2), (3, .int x.1), (4, .int x.2.1)] [] x.2.2) (fun o => fhRet Γ none o)) o) : fhW fhYF Γ 5 [(0, .ref 76), (1, .int v1), (2, .int v2), (3, .int v3), (4, .int v4)] [] σ := by
  unfold f_X1_splitGroup_5 at h
  refine fhW.blk fhPF fhLL hΓ [(.iload 4, 0), (.iconst 1, 1), (.aload_n 0, 0), (.getfield 41, 0), (.getfield 92, 0), (.ishl, 0)] (pc' := 16) (lv' := [(0, .ref 76), (1, .int v1), (2, .int v2), (3, .int v3), (4, .int v4)]) (st' := [.int ((1 : Int32) <<< ((σ.1 39 9) &&& 31)), .int v4]) (σ' := σ) (by decide +kernel) rfl rfl rfl ?_
  refine fhW.i_ge hΓ (tgt := 115) (show fhbk _ _ (.if_icmp .ge (99)) _ = true by decide +kernel) (fun hc => ?_) (fun hc => ?_)
  · rw [if_pos hc] at h
    have e9 := Option.some.inj h
    subst e9
    exact fhW.vret hΓ (by decide +kernel) hk
  · rw [if_neg hc] at h
    refine fhW.blk fhPF fhLL hΓ [(.iload_n 3, 0), (.iload_n 2, 0)] (pc' := 21) (lv' := [(0, .ref 76), (1, .int v1), (2, .int v2), (3, .int v3), (4, .int v4)]) (st' := [.int v2, .int v3]) (σ' := σ) (by decide +kernel) rfl rfl rfl ?_
    refine fhW.i_ge hΓ (tgt := 115) (show fhbk _ _ (.if_icmp .ge (94)) _ = true by decide +kernel) (fun hc => ?_) (fun hc => ?_)
    · rw [if_pos hc] at h
      have e9 := Option.some.inj h
      subst e9
      exact fhW.vret hΓ (by decide +kernel) hk
    · rw [if_neg hc] at h
      refine fhW.blk fhPF fhLL hΓ [(.iload_n 3, 0), (.istore 5, 0), (.iload_n 1, 0), (.istore 6, 0)] (pc' := 30) (lv' := [(6, .int v1), (5, .int v3), (0, .ref 76), (1, .int v1), (2, .int v2), (3, .int v3), (4, .int v4)]) (st' := []) (σ' := σ) (by decide +kernel) rfl rfl rfl ?_
      refine fhW.sub (lv' := [(0, .ref 76), (1, .int v1), (2, .int v2), (3, .int v3), (4, .int v4), (5, .int v3), (6, .int v1)]) [2, 3, 4, 5, 6, 1, 0] rfl ?_
      exact fhlp_ok (W := (fun x => fhW fhYF Γ 30 [(0, .ref 76), (1, .int v1), (2, .int v2), (3, .int x.1), (4, .int v4), (5, .int v3), (6, .int x.2.1)] [] x.2.2)) (B := (fhK (fun x => fhW fhYF Γ 5 [(0, .ref 76), (1, .int v1), (2, .int v2), (3, .int x.1), (4, .int x.2.1)] [] x.2.2) (fun o => fhRet Γ none o))) (fun x o h hk => L_X1_splitGroup_30 hE hΓ hd v1 v2 x.1 v4 v3 x.2.1 x.2.2 o h hk) (v3, v1, σ) _ h hk
set_option maxRecDepth 100000 in
set_option maxHeartbeats 4000000 in
theorem L_X1_splitGroup_E {Γ : fhX} (hE : fhEok fhYF (fhEn Γ)) (hΓ : fhOk fhYF 1 cX1_splitGroup 8 none Γ) (hd : 1 ≤ fhD Γ) (v1 : Int32) (v2 : Int32)  (σ : fhM) (o : fhM) (h : f_X1_splitGroup v1 v2 σ = some o) (hk : (fun o => fhRet Γ none o) o) : fhW fhYF Γ 0 [(0, .ref 76), (1, .int v1), (2, .int v2)] [] σ := by
  unfold f_X1_splitGroup at h
  refine fhW.blk fhPF fhLL hΓ [(.iload_n 1, 0), (.istore_n 3, 0), (.iconst 0, 0), (.istore 4, 0)] (pc' := 5) (lv' := [(4, .int (0 : Int32)), (3, .int v1), (0, .ref 76), (1, .int v1), (2, .int v2)]) (st' := []) (σ' := σ) (by decide +kernel) rfl rfl rfl ?_
  refine fhW.sub (lv' := [(0, .ref 76), (1, .int v1), (2, .int v2), (3, .int v1), (4, .int (0 : Int32))]) [2, 3, 4, 1, 0] rfl ?_
  exact fhlp_ok (W := (fun x => fhW fhYF Γ 5 [(0, .ref 76), (1, .int v1), (2, .int v2), (3, .int x.1), (4, .int x.2.1)] [] x.2.2)) (B := (fun o => fhRet Γ none o)) (fun x o h hk => L_X1_splitGroup_5 hE hΓ hd v1 v2 x.1 x.2.1 x.2.2 o h hk) (v1, (0 : Int32), σ) _ h hk
set_option maxRecDepth 100000 in
theorem T_X1_splitGroup {E : fhE} {d : Nat} (hE : fhEok fhYF E) (hd : 1 ≤ d) (v1 : Int32) (v2 : Int32)  (σ : fhM) {o : fhM} (h : f_X1_splitGroup v1 v2 σ = some o) : fhC fhYF E d miX1_splitGroup [.ref 76, .int v1, .int v2] σ none o := by
  refine fhC.of (y := yX1_splitGroup) (cc := cX1_splitGroup) (nL := 8) (ret := none) 1 rfl (by decide +kernel) (Nat.le_of_ble_eq_true rfl) ?_
  intro Γ hΓ hR hD hEn
  subst hD; subst hEn
  exact L_X1_splitGroup_E hE hΓ hd v1 v2  σ _ h hR
set_option maxRecDepth 100000 in
set_option maxHeartbeats 4000000 in
theorem L_X1_splitGroups_7 {Γ : fhX} (hE : fhEok fhYF (fhEn Γ)) (hΓ : fhOk fhYF 1 cX1_splitGroups 5 none Γ) (hd : 3 ≤ fhD Γ) (v1 : Int32) (v2 : Int32)  (σ : fhM) (o : (Int32 × fhM) ⊕ (fhM)) (h : f_X1_splitGroups_7 v1 v2 σ = some o) (hk : (fhK (fun x => fhW fhYF Γ 7 [(0, .ref 76), (1, .int v1), (2, .int x.1)] [] x.2) (fun o => fhRet Γ none o)) o) : fhW fhYF Γ 7 [(0, .ref 76), (1, .int v1), (2, .int v2)] [] σ := by
  unfold f_X1_splitGroups_7 at h
  refine fhW.blk fhPF fhLL hΓ [(.iload_n 2, 0), (.aload_n 0, 0), (.getfield 56, 0)] (pc' := 12) (lv' := [(0, .ref 76), (1, .int v1), (2, .int v2)]) (st' := [.int (σ.1 76 5), .int v2]) (σ' := σ) (by decide +kernel) rfl rfl rfl ?_
  refine fhW.i_ge hΓ (tgt := 75) (show fhbk _ _ (.if_icmp .ge (63)) _ = true by decide +kernel) (fun hc => ?_) (fun hc => ?_)
  · rw [if_pos hc] at h
    refine fhW.blk fhPF fhLL hΓ [(.aload_n 0, 0), (.getfield 26, 0), (.aload_n 0, 0), (.getfield 78, 0), (.aload_n 0, 0), (.getfield 41, 0), (.getfield 62, 0)] (pc' := 90) (lv' := [(0, .ref 76), (1, .int v1), (2, .int v2)]) (st' := [.int (σ.1 39 12), .int (σ.1 76 6), .ref (σ.2.2 76 4)]) (σ' := σ) (by decide +kernel) rfl rfl rfl ?_
    obtain ⟨hy1, h⟩ := fhif h
    refine fhW.callv hΓ mvX2_put ml_1_74 (t := (σ.2.2 76 4)) (ci := 2) (av := [.int (σ.1 76 6), .int (σ.1 39 12)]) (rest := []) (r := none) (σ' := (fcP σ (σ.2.2 76 4) (σ.1 76 6) (σ.1 39 12))) (T_X2_put (E := fhEn Γ) (d := fhD Γ - 1) hE (by omega) (σ.2.2 76 4) (σ.1 76 6) (σ.1 39 12) hy1 σ) (by omega) (by decide +kernel) rfl (fhiC_g hy1) rfl (Nat.le_of_ble_eq_true rfl) rfl ?_
    show fhW fhYF Γ 93 [(0, .ref 76), (1, .int v1), (2, .int v2)] [] (fcP σ (σ.2.2 76 4) (σ.1 76 6) (σ.1 39 12))
    refine fhW.blk fhPF fhLL hΓ [(.aload_n 0, 0), (.getfield 14, 0), (.astore_n 2, 0), (.aload_n 0, 0), (.aload_n 0, 0), (.getfield 20, 0), (.putfield 14, 0), (.aload_n 0, 0), (.aload_n 2, 0), (.putfield 20, 0), (.aload_n 0, 0), (.getfield 23, 0), (.astore_n 2, 0), (.aload_n 0, 0), (.aload_n 0, 0), (.getfield 26, 0), (.putfield 23, 0), (.aload_n 0, 0), (.aload_n 2, 0), (.putfield 26, 0), (.aload_n 0, 0), (.aload_n 0, 0), (.getfield 78, 0), (.putfield 56, 0)] (pc' := 137) (lv' := [(2, .ref (σ.2.2 76 3)), (0, .ref 76), (1, .int v1)]) (st' := []) (σ' := (fhI (fhR (fhR (fhR (fhR (fcP σ (σ.2.2 76 4) (σ.1 76 6) (σ.1 39 12)) 76 1 (σ.2.2 76 2)) 76 2 (σ.2.2 76 1)) 76 3 (σ.2.2 76 4)) 76 4 (σ.2.2 76 3)) 76 5 ((fcP σ (σ.2.2 76 4) (σ.1 76 6) (σ.1 39 12)).1 76 6))) (by decide +kernel) rfl rfl rfl ?_
    have e9 := Option.some.inj h
    subst e9
    exact fhW.vret hΓ (by decide +kernel) hk
  · rw [if_neg hc] at h
    refine fhW.blk fhPF fhLL hΓ [(.aload_n 0, 0), (.getfield 23, 0), (.iload_n 2, 0)] (pc' := 20) (lv' := [(0, .ref 76), (1, .int v1), (2, .int v2)]) (st' := [.int v2, .ref (σ.2.2 76 3)]) (σ' := σ) (by decide +kernel) rfl rfl rfl ?_
    obtain ⟨hy2, h⟩ := fhif h
    refine fhW.callv hΓ mvX2_get ml_1_70 (t := (σ.2.2 76 3)) (ci := 2) (av := [.int v2]) (rest := []) (r := (some (.int (fcG σ (σ.2.2 76 3) v2)))) (σ' := σ) (T_X2_get (E := fhEn Γ) (d := fhD Γ - 1) hE (by omega) (σ.2.2 76 3) v2 hy2 σ) (by omega) (by decide +kernel) rfl (fhiC_g hy2) rfl (Nat.le_of_ble_eq_true rfl) rfl ?_
    show fhW fhYF Γ 23 [(0, .ref 76), (1, .int v1), (2, .int v2)] [.int (fcG σ (σ.2.2 76 3) v2)] σ
    refine fhW.blk fhPF fhLL hΓ [(.istore_n 3, 0), (.aload_n 0, 0), (.getfield 23, 0), (.iload_n 2, 0), (.iconst 1, 1), (.iadd, 0)] (pc' := 31) (lv' := [(3, .int (fcG σ (σ.2.2 76 3) v2)), (0, .ref 76), (1, .int v1), (2, .int v2)]) (st' := [.int (v2 + (1 : Int32)), .ref (σ.2.2 76 3)]) (σ' := σ) (by decide +kernel) rfl rfl rfl ?_
    refine fhW.callv hΓ mvX2_get ml_1_70 (t := (σ.2.2 76 3)) (ci := 2) (av := [.int (v2 + (1 : Int32))]) (rest := []) (r := (some (.int (fcG σ (σ.2.2 76 3) (v2 + (1 : Int32)))))) (σ' := σ) (T_X2_get (E := fhEn Γ) (d := fhD Γ - 1) hE (by omega) (σ.2.2 76 3) (v2 + (1 : Int32)) hy2 σ) (by omega) (by decide +kernel) rfl (fhiC_g hy2) rfl (Nat.le_of_ble_eq_true rfl) rfl ?_
    show fhW fhYF Γ 34 [(3, .int (fcG σ (σ.2.2 76 3) v2)), (0, .ref 76), (1, .int v1), (2, .int v2)] [.int (fcG σ (σ.2.2 76 3) (v2 + (1 : Int32)))] σ
    refine fhW.blk fhPF fhLL hΓ [(.istore 4, 0), (.aload_n 0, 0), (.getfield 41, 0), (.aload_n 0, 0), (.getfield 14, 0), (.iload_n 3, 0), (.iload 4, 0), (.aload_n 0, 0), (.getfield 29, 0)] (pc' := 51) (lv' := [(4, .int (fcG σ (σ.2.2 76 3) (v2 + (1 : Int32)))), (3, .int (fcG σ (σ.2.2 76 3) v2)), (0, .ref 76), (1, .int v1), (2, .int v2)]) (st' := [.ref 85, .int (fcG σ (σ.2.2 76 3) (v2 + (1 : Int32))), .int (fcG σ (σ.2.2 76 3) v2), .ref (σ.2.2 76 1), .ref 39]) (σ' := σ) (by decide +kernel) rfl rfl rfl ?_
    obtain ⟨hy3, h⟩ := fhif h
    obtain ⟨q1, hb1, h⟩ := Option.bind_eq_some_iff.mp h
    refine fhW.callv hΓ mvX9_findKnowers ml_1_81 (t := 39) (ci := 9) (av := [.ref (σ.2.2 76 1), .int (fcG σ (σ.2.2 76 3) v2), .int (fcG σ (σ.2.2 76 3) (v2 + (1 : Int32))), .ref 85]) (rest := []) (r := none) (σ' := q1) (T_X9_findKnowers (E := fhEn Γ) (d := fhD Γ - 1) hE (by omega) (σ.2.2 76 1) (fcG σ (σ.2.2 76 3) v2) (fcG σ (σ.2.2 76 3) (v2 + (1 : Int32))) 85 hy3 rfl σ hb1) (by omega) (by decide +kernel) rfl rfl rfl (Nat.le_of_ble_eq_true rfl) rfl ?_
    show fhW fhYF Γ 54 [(4, .int (fcG σ (σ.2.2 76 3) (v2 + (1 : Int32)))), (3, .int (fcG σ (σ.2.2 76 3) v2)), (0, .ref 76), (1, .int v1), (2, .int v2)] [] q1
    refine fhW.blk fhPF fhLL hΓ [(.aload_n 0, 0), (.iload_n 3, 0), (.iload 4, 0), (.iload_n 1, 0)] (pc' := 59) (lv' := [(4, .int (fcG σ (σ.2.2 76 3) (v2 + (1 : Int32)))), (3, .int (fcG σ (σ.2.2 76 3) v2)), (0, .ref 76), (1, .int v1), (2, .int v2)]) (st' := [.int v1, .int (fcG σ (σ.2.2 76 3) (v2 + (1 : Int32))), .int (fcG σ (σ.2.2 76 3) v2), .ref 76]) (σ' := q1) (by decide +kernel) rfl rfl rfl ?_
    obtain ⟨q2, hb2, h⟩ := Option.bind_eq_some_iff.mp h
    refine fhW.callv hΓ mvX1_noteKnowers ml_1_85 (t := 76) (ci := 1) (av := [.int (fcG σ (σ.2.2 76 3) v2), .int (fcG σ (σ.2.2 76 3) (v2 + (1 : Int32))), .int v1]) (rest := []) (r := none) (σ' := q2) (T_X1_noteKnowers (E := fhEn Γ) (d := fhD Γ - 1) hE (by omega) (fcG σ (σ.2.2 76 3) v2) (fcG σ (σ.2.2 76 3) (v2 + (1 : Int32))) v1 q1 hb2) (by omega) (by decide +kernel) rfl rfl rfl (Nat.le_of_ble_eq_true rfl) rfl ?_
    show fhW fhYF Γ 62 [(4, .int (fcG σ (σ.2.2 76 3) (v2 + (1 : Int32)))), (3, .int (fcG σ (σ.2.2 76 3) v2)), (0, .ref 76), (1, .int v1), (2, .int v2)] [] q2
    refine fhW.blk fhPF fhLL hΓ [(.aload_n 0, 0), (.iload_n 3, 0), (.iload 4, 0)] (pc' := 66) (lv' := [(4, .int (fcG σ (σ.2.2 76 3) (v2 + (1 : Int32)))), (3, .int (fcG σ (σ.2.2 76 3) v2)), (0, .ref 76), (1, .int v1), (2, .int v2)]) (st' := [.int (fcG σ (σ.2.2 76 3) (v2 + (1 : Int32))), .int (fcG σ (σ.2.2 76 3) v2), .ref 76]) (σ' := q2) (by decide +kernel) rfl rfl rfl ?_
    obtain ⟨q3, hb3, h⟩ := Option.bind_eq_some_iff.mp h
    refine fhW.callv hΓ mvX1_splitGroup ml_1_89 (t := 76) (ci := 1) (av := [.int (fcG σ (σ.2.2 76 3) v2), .int (fcG σ (σ.2.2 76 3) (v2 + (1 : Int32)))]) (rest := []) (r := none) (σ' := q3) (T_X1_splitGroup (E := fhEn Γ) (d := fhD Γ - 1) hE (by omega) (fcG σ (σ.2.2 76 3) v2) (fcG σ (σ.2.2 76 3) (v2 + (1 : Int32))) q2 hb3) (by omega) (by decide +kernel) rfl rfl rfl (Nat.le_of_ble_eq_true rfl) rfl ?_
    show fhW fhYF Γ 69 [(4, .int (fcG σ (σ.2.2 76 3) (v2 + (1 : Int32)))), (3, .int (fcG σ (σ.2.2 76 3) v2)), (0, .ref 76), (1, .int v1), (2, .int v2)] [] q3
    refine fhW.blk fhPF fhLL hΓ [(.iinc 2 1, 1)] (pc' := 72) (lv' := [(2, .int (v2 + (1 : Int32))), (4, .int (fcG σ (σ.2.2 76 3) (v2 + (1 : Int32)))), (3, .int (fcG σ (σ.2.2 76 3) v2)), (0, .ref 76), (1, .int v1)]) (st' := []) (σ' := q3) (by decide +kernel) rfl rfl rfl ?_
    refine fhW.goto hΓ (off := (-65)) (tgt := 7) (by decide +kernel) ?_
    refine fhW.sub (lv' := [(0, .ref 76), (1, .int v1), (2, .int (v2 + (1 : Int32)))]) [3, 4, 0] rfl ?_
    have e9 := Option.some.inj h
    subst e9
    exact hk
set_option maxRecDepth 100000 in
set_option maxHeartbeats 4000000 in
theorem L_X1_splitGroups_E {Γ : fhX} (hE : fhEok fhYF (fhEn Γ)) (hΓ : fhOk fhYF 1 cX1_splitGroups 5 none Γ) (hd : 3 ≤ fhD Γ) (v1 : Int32)  (σ : fhM) (o : fhM) (h : f_X1_splitGroups v1 σ = some o) (hk : (fun o => fhRet Γ none o) o) : fhW fhYF Γ 0 [(0, .ref 76), (1, .int v1)] [] σ := by
  unfold f_X1_splitGroups at h
  refine fhW.blk fhPF fhLL hΓ [(.aload_n 0, 0), (.iconst 0, 0), (.putfield 78, 0), (.iconst 0, 0), (.istore_n 2, 0)] (pc' := 7) (lv' := [(2, .int (0 : Int32)), (0, .ref 76), (1, .int v1)]) (st' := []) (σ' := (fhI σ 76 6 (0 : Int32))) (by decide +kernel) rfl rfl rfl ?_
  refine fhW.sub (lv' := [(0, .ref 76), (1, .int v1), (2, .int (0 : Int32))]) [1, 2, 0] rfl ?_
  exact fhlp_ok (W := (fun x => fhW fhYF Γ 7 [(0, .ref 76), (1, .int v1), (2, .int x.1)] [] x.2)) (B := (fun o => fhRet Γ none o)) (fun x o h hk => L_X1_splitGroups_7 hE hΓ hd v1 x.1 x.2 o h hk) ((0 : Int32), (fhI σ 76 6 (0 : Int32))) _ h hk
set_option maxRecDepth 100000 in
theorem T_X1_splitGroups {E : fhE} {d : Nat} (hE : fhEok fhYF E) (hd : 3 ≤ d) (v1 : Int32)  (σ : fhM) {o : fhM} (h : f_X1_splitGroups v1 σ = some o) : fhC fhYF E d miX1_splitGroups [.ref 76, .int v1] σ none o := by
  refine fhC.of (y := yX1_splitGroups) (cc := cX1_splitGroups) (nL := 5) (ret := none) 1 rfl (by decide +kernel) (Nat.le_of_ble_eq_true rfl) ?_
  intro Γ hΓ hR hD hEn
  subst hD; subst hEn
  exact L_X1_splitGroups_E hE hΓ hd v1  σ _ h hR
set_option maxRecDepth 100000 in
set_option maxHeartbeats 4000000 in
theorem L_X1_prepare_54 {Γ : fhX} (hE : fhEok fhYF (fhEn Γ)) (hΓ : fhOk fhYF 1 cX1_prepare 4 none Γ) (hd : 4 ≤ fhD Γ) (v2 : Int32) (s0 : Int32)  (σ : fhM) (o : (Int32 × Int32 × fhM) ⊕ (fhM)) (h : f_X1_prepare_54 v2 s0 σ = some o) (hk : (fhK (fun x => fhW fhYF Γ 21 [(0, .ref 76), (1, .int x.1), (2, .int x.2.1)] [] x.2.2) (fun o => fhRet Γ none o)) o) : fhW fhYF Γ 54 [(0, .ref 76), (2, .int v2)] [.int s0] σ := by
  unfold f_X1_prepare_54 at h
  refine fhW.blk fhPF fhLL hΓ [(.istore_n 1, 0), (.iinc 2 1, 1)] (pc' := 58) (lv' := [(2, .int (v2 + (1 : Int32))), (1, .int s0), (0, .ref 76)]) (st' := []) (σ' := σ) (by decide +kernel) rfl rfl rfl ?_
  refine fhW.goto hΓ (off := (-37)) (tgt := 21) (by decide +kernel) ?_
  refine fhW.sub (lv' := [(0, .ref 76), (1, .int s0), (2, .int (v2 + (1 : Int32)))]) [2, 1, 0] rfl ?_
  have e9 := Option.some.inj h
  subst e9
  exact hk
set_option maxRecDepth 100000 in
set_option maxHeartbeats 4000000 in
theorem L_X1_prepare_21 {Γ : fhX} (hE : fhEok fhYF (fhEn Γ)) (hΓ : fhOk fhYF 1 cX1_prepare 4 none Γ) (hd : 4 ≤ fhD Γ) (v1 : Int32) (v2 : Int32)  (σ : fhM) (o : (Int32 × Int32 × fhM) ⊕ (fhM)) (h : f_X1_prepare_21 v1 v2 σ = some o) (hk : (fhK (fun x => fhW fhYF Γ 21 [(0, .ref 76), (1, .int x.1), (2, .int x.2.1)] [] x.2.2) (fun o => fhRet Γ none o)) o) : fhW fhYF Γ 21 [(0, .ref 76), (1, .int v1), (2, .int v2)] [] σ := by
  unfold f_X1_prepare_21 at h
  refine fhW.blk fhPF fhLL hΓ [(.iload_n 2, 0), (.bipush 20, 20)] (pc' := 24) (lv' := [(0, .ref 76), (1, .int v1), (2, .int v2)]) (st' := [.int (20 : Int32), .int v2]) (σ' := σ) (by decide +kernel) rfl rfl rfl ?_
  refine fhW.i_gt hΓ (tgt := 61) (show fhbk _ _ (.if_icmp .gt (37)) _ = true by decide +kernel) (fun hc => ?_) (fun hc => ?_)
  · rw [if_pos hc] at h
    have e9 := Option.some.inj h
    subst e9
    exact fhW.vret hΓ (by decide +kernel) hk
  · rw [if_neg hc] at h
    refine fhW.blk fhPF fhLL hΓ [(.iload_n 1, 0)] (pc' := 28) (lv' := [(0, .ref 76), (1, .int v1), (2, .int v2)]) (st' := [.int v1]) (σ' := σ) (by decide +kernel) rfl rfl rfl ?_
    refine fhW.z_eq hΓ (tgt := 61) (show fhbk _ _ (.ifCond .eq (33)) _ = true by decide +kernel) (fun hc => ?_) (fun hc => ?_)
    · rw [if_pos hc] at h
      have e9 := Option.some.inj h
      subst e9
      exact fhW.vret hΓ (by decide +kernel) hk
    · rw [if_neg hc] at h
      refine fhW.blk fhPF fhLL hΓ [(.aload_n 0, 0), (.getfield 56, 0), (.istore_n 3, 0), (.aload_n 0, 0), (.iload_n 2, 0)] (pc' := 38) (lv' := [(3, .int (σ.1 76 5)), (0, .ref 76), (1, .int v1), (2, .int v2)]) (st' := [.int v2, .ref 76]) (σ' := σ) (by decide +kernel) rfl rfl rfl ?_
      obtain ⟨q2, hb1, h⟩ := Option.bind_eq_some_iff.mp h
      refine fhW.callv hΓ mvX1_splitGroups ml_1_59 (t := 76) (ci := 1) (av := [.int v2]) (rest := []) (r := none) (σ' := q2) (T_X1_splitGroups (E := fhEn Γ) (d := fhD Γ - 1) hE (by omega) v2 σ hb1) (by omega) (by decide +kernel) rfl rfl rfl (Nat.le_of_ble_eq_true rfl) rfl ?_
      show fhW fhYF Γ 41 [(3, .int (σ.1 76 5)), (0, .ref 76), (1, .int v1), (2, .int v2)] [] q2
      refine fhW.blk fhPF fhLL hΓ [(.aload_n 0, 0), (.getfield 56, 0), (.iload_n 3, 0)] (pc' := 46) (lv' := [(3, .int (σ.1 76 5)), (0, .ref 76), (1, .int v1), (2, .int v2)]) (st' := [.int (σ.1 76 5), .int (q2.1 76 5)]) (σ' := q2) (by decide +kernel) rfl rfl rfl ?_
      refine fhW.i_le hΓ (tgt := 53) (show fhbk _ _ (.if_icmp .le (7)) _ = true by decide +kernel) (fun hc => ?_) (fun hc => ?_)
      · simp only [if_pos hc] at h
        refine fhW.blk fhPF fhLL hΓ [(.iconst 0, 0)] (pc' := 54) (lv' := [(3, .int (σ.1 76 5)), (0, .ref 76), (1, .int v1), (2, .int v2)]) (st' := [.int (0 : Int32)]) (σ' := q2) (by decide +kernel) rfl rfl rfl ?_
        refine fhW.sub (lv' := [(0, .ref 76), (2, .int v2)]) [1, 3] rfl ?_
        exact L_X1_prepare_54 hE hΓ hd v2 (0 : Int32) q2 _ h hk
      · simp only [if_neg hc] at h
        refine fhW.blk fhPF fhLL hΓ [(.iconst 1, 1)] (pc' := 50) (lv' := [(3, .int (σ.1 76 5)), (0, .ref 76), (1, .int v1), (2, .int v2)]) (st' := [.int (1 : Int32)]) (σ' := q2) (by decide +kernel) rfl rfl rfl ?_
        refine fhW.goto hΓ (off := 4) (tgt := 54) (by decide +kernel) ?_
        refine fhW.sub (lv' := [(0, .ref 76), (2, .int v2)]) [1, 3] rfl ?_
        exact L_X1_prepare_54 hE hΓ hd v2 (1 : Int32) q2 _ h hk
set_option maxRecDepth 100000 in
set_option maxHeartbeats 4000000 in
theorem L_X1_prepare_E {Γ : fhX} (hE : fhEok fhYF (fhEn Γ)) (hΓ : fhOk fhYF 1 cX1_prepare 4 none Γ) (hd : 4 ≤ fhD Γ)   (σ : fhM) (o : fhM) (h : f_X1_prepare σ = some o) (hk : (fun o => fhRet Γ none o) o) : fhW fhYF Γ 0 [(0, .ref 76)] [] σ := by
  unfold f_X1_prepare at h
  refine fhW.blk fhPF fhLL hΓ [(.aload_n 0, 0), (.getfield 45, 0)] (pc' := 4) (lv' := [(0, .ref 76)]) (st' := [.int (σ.1 76 9)]) (σ' := σ) (by decide +kernel) rfl rfl rfl ?_
  refine fhW.z_eq hΓ (tgt := 8) (show fhbk _ _ (.ifCond .eq (4)) _ = true by decide +kernel) (fun hc => ?_) (fun hc => ?_)
  · rw [if_pos hc] at h
    refine fhW.blk fhPF fhLL hΓ [(.aload_n 0, 0), (.iconst 1, 1), (.putfield 45, 0), (.aload_n 0, 0)] (pc' := 14) (lv' := [(0, .ref 76)]) (st' := [.ref 76]) (σ' := (fhI σ 76 9 (1 : Int32))) (by decide +kernel) rfl rfl rfl ?_
    obtain ⟨q1, hb2, h⟩ := Option.bind_eq_some_iff.mp h
    refine fhW.callv hΓ mvX1_start ml_1_53 (t := 76) (ci := 1) (av := []) (rest := []) (r := none) (σ' := q1) (T_X1_start (E := fhEn Γ) (d := fhD Γ - 1) hE (by omega) (fhI σ 76 9 (1 : Int32)) hb2) (by omega) (by decide +kernel) rfl rfl rfl (Nat.le_of_ble_eq_true rfl) rfl ?_
    show fhW fhYF Γ 17 [(0, .ref 76)] [] q1
    refine fhW.blk fhPF fhLL hΓ [(.iconst 1, 1), (.istore_n 1, 0), (.iconst 0, 0), (.istore_n 2, 0)] (pc' := 21) (lv' := [(2, .int (0 : Int32)), (1, .int (1 : Int32)), (0, .ref 76)]) (st' := []) (σ' := q1) (by decide +kernel) rfl rfl rfl ?_
    refine fhW.sub (lv' := [(0, .ref 76), (1, .int (1 : Int32)), (2, .int (0 : Int32))]) [2, 1, 0] rfl ?_
    exact fhlp_ok (W := (fun x => fhW fhYF Γ 21 [(0, .ref 76), (1, .int x.1), (2, .int x.2.1)] [] x.2.2)) (B := (fun o => fhRet Γ none o)) (fun x o h hk => L_X1_prepare_21 hE hΓ hd x.1 x.2.1 x.2.2 o h hk) ((1 : Int32), (0 : Int32), q1) _ h hk
  · rw [if_neg hc] at h
    have e9 := Option.some.inj h
    subst e9
    exact fhW.vret hΓ (by decide +kernel) hk
set_option maxRecDepth 100000 in
theorem T_X1_prepare {E : fhE} {d : Nat} (hE : fhEok fhYF E) (hd : 4 ≤ d)   (σ : fhM) {o : fhM} (h : f_X1_prepare σ = some o) : fhC fhYF E d miX1_prepare [.ref 76] σ none o := by
  refine fhC.of (y := yX1_prepare) (cc := cX1_prepare) (nL := 4) (ret := none) 1 rfl (by decide +kernel) (Nat.le_of_ble_eq_true rfl) ?_
  intro Γ hΓ hR hD hEn
  subst hD; subst hEn
  exact L_X1_prepare_E hE hΓ hd   σ _ h hR
set_option maxRecDepth 100000 in
set_option maxHeartbeats 4000000 in
theorem L_X1_firstKnown_E {Γ : fhX} (hE : fhEok fhYF (fhEn Γ)) (hΓ : fhOk fhYF 1 cX1_firstKnown 3 (some .int) Γ) (hd : 1 ≤ fhD Γ) (v1 : Int32) (v2 : Int32)  (σ : fhM) (o : Int32) (h : f_X1_firstKnown v1 v2 σ = o) (hk : (fun o => fhRet Γ (some (.int o)) σ) o) : fhW fhYF Γ 0 [(0, .ref 76), (1, .int v1), (2, .int v2)] [] σ := by
  unfold f_X1_firstKnown at h
  refine fhW.blk fhPF fhLL hΓ [(.aload_n 0, 0), (.getfield 32, 0), (.iload_n 1, 0), (.iconst 5, 5), (.imul, 0), (.iload_n 2, 0), (.iadd, 0)] (pc' := 9) (lv' := [(0, .ref 76), (1, .int v1), (2, .int v2)]) (st' := [.int ((v1 * (5 : Int32)) + v2), .ref 87]) (σ' := σ) (by decide +kernel) rfl rfl rfl ?_
  refine fhW.callv hΓ mvX2_get ml_1_70 (t := 87) (ci := 2) (av := [.int ((v1 * (5 : Int32)) + v2)]) (rest := []) (r := (some (.int (fcG σ 87 ((v1 * (5 : Int32)) + v2))))) (σ' := σ) (T_X2_get (E := fhEn Γ) (d := fhD Γ - 1) hE (by omega) 87 ((v1 * (5 : Int32)) + v2) rfl σ) (by omega) (by decide +kernel) rfl rfl rfl (Nat.le_of_ble_eq_true rfl) rfl ?_
  show fhW fhYF Γ 12 [(0, .ref 76), (1, .int v1), (2, .int v2)] [.int (fcG σ 87 ((v1 * (5 : Int32)) + v2))] σ
  subst h
  exact fhW.iret hΓ (by decide +kernel) hk
set_option maxRecDepth 100000 in
theorem T_X1_firstKnown {E : fhE} {d : Nat} (hE : fhEok fhYF E) (hd : 1 ≤ d) (v1 : Int32) (v2 : Int32)  (σ : fhM) : fhC fhYF E d miX1_firstKnown [.ref 76, .int v1, .int v2] σ (some (.int (f_X1_firstKnown v1 v2 σ))) σ := by
  refine fhC.of (y := yX1_firstKnown) (cc := cX1_firstKnown) (nL := 3) (ret := (some .int)) 1 rfl (by decide +kernel) (Nat.le_of_ble_eq_true rfl) ?_
  intro Γ hΓ hR hD hEn
  subst hD; subst hEn
  exact L_X1_firstKnown_E hE hΓ hd v1 v2  σ _ rfl hR

