set_option maxRecDepth 100000 in
set_option maxHeartbeats 4000000 in
theorem L_X1_isFitting_64 {Γ : fhX} (hE : fhEok fhYF (fhEn Γ)) (hΓ : fhOk fhYF 1 cX1_isFitting 4 (some .boolean) Γ) (hd : 2 ≤ fhD Γ) (v1 : Int32) (v2 : Int32) (s0 : Int32) (s1 : Int32)  (σ : fhM) (o : (Int32) ⊕ (Bool)) (h : f_X1_isFitting_64 v1 v2 s0 s1 σ = some o) (hk : (fhK (fun x => fhW fhYF Γ 2 [(0, .ref 76), (1, .int v1), (2, .int x)] [] σ) (fun o => fhRet Γ (some (.int (fhb o))) σ)) o) : fhW fhYF Γ 64 [(0, .ref 76), (1, .int v1), (2, .int v2)] [.int s0, .int s1] σ := by
  unfold f_X1_isFitting_64 at h
  refine fhW.i_eq hΓ (tgt := 69) (show fhbk _ _ (.if_icmp .eq (5)) _ = true by decide +kernel) (fun hc => ?_) (fun hc => ?_)
  · rw [if_pos hc] at h
    refine fhW.blk fhPF fhLL hΓ [(.iinc 2 3, 3)] (pc' := 72) (lv' := [(2, .int (v2 + (3 : Int32))), (0, .ref 76), (1, .int v1)]) (st' := []) (σ' := σ) (by decide +kernel) rfl rfl rfl ?_
    refine fhW.goto hΓ (off := (-70)) (tgt := 2) (by decide +kernel) ?_
    refine fhW.sub (lv' := [(0, .ref 76), (1, .int v1), (2, .int (v2 + (3 : Int32)))]) [1, 2, 0] rfl ?_
    have e9 := Option.some.inj h
    subst e9
    exact hk
  · rw [if_neg hc] at h
    refine fhW.blk fhPF fhLL hΓ [(.iconst 0, 0)] (pc' := 68) (lv' := [(0, .ref 76), (1, .int v1), (2, .int v2)]) (st' := [.int (0 : Int32)]) (σ' := σ) (by decide +kernel) rfl rfl rfl ?_
    have e9 := Option.some.inj h
    subst e9
    exact fhW.zret (v := false) hΓ (by decide +kernel) hk
set_option maxRecDepth 100000 in
set_option maxHeartbeats 4000000 in
theorem L_X1_isFitting_43 {Γ : fhX} (hE : fhEok fhYF (fhEn Γ)) (hΓ : fhOk fhYF 1 cX1_isFitting 4 (some .boolean) Γ) (hd : 2 ≤ fhD Γ) (v1 : Int32) (v2 : Int32) (s0 : Int32)  (σ : fhM) (o : (Int32) ⊕ (Bool)) (h : f_X1_isFitting_43 v1 v2 s0 σ = some o) (hk : (fhK (fun x => fhW fhYF Γ 2 [(0, .ref 76), (1, .int v1), (2, .int x)] [] σ) (fun o => fhRet Γ (some (.int (fhb o))) σ)) o) : fhW fhYF Γ 43 [(0, .ref 76), (1, .int v1), (2, .int v2)] [.int s0] σ := by
  unfold f_X1_isFitting_43 at h
  refine fhW.blk fhPF fhLL hΓ [(.istore_n 3, 0), (.iload_n 3, 0), (.aload_n 0, 0), (.getfield 35, 0), (.iload_n 2, 0), (.iconst 2, 2), (.iadd, 0)] (pc' := 52) (lv' := [(3, .int s0), (0, .ref 76), (1, .int v1), (2, .int v2)]) (st' := [.int (v2 + (2 : Int32)), .ref 89, .int s0]) (σ' := σ) (by decide +kernel) rfl rfl rfl ?_
  refine fhW.callv hΓ mvX2_get ml_1_70 (t := 89) (ci := 2) (av := [.int (v2 + (2 : Int32))]) (rest := [.int s0]) (r := (some (.int (fcG σ 89 (v2 + (2 : Int32)))))) (σ' := σ) (T_X2_get (E := fhEn Γ) (d := fhD Γ - 1) hE (by omega) 89 (v2 + (2 : Int32)) rfl σ) (by omega) (by decide +kernel) rfl rfl rfl (Nat.le_of_ble_eq_true rfl) rfl ?_
  show fhW fhYF Γ 55 [(3, .int s0), (0, .ref 76), (1, .int v1), (2, .int v2)] [.int (fcG σ 89 (v2 + (2 : Int32))), .int s0] σ
  refine fhW.blk fhPF fhLL hΓ [(.iconst 1, 1)] (pc' := 56) (lv' := [(3, .int s0), (0, .ref 76), (1, .int v1), (2, .int v2)]) (st' := [.int (1 : Int32), .int (fcG σ 89 (v2 + (2 : Int32))), .int s0]) (σ' := σ) (by decide +kernel) rfl rfl rfl ?_
  refine fhW.i_ne hΓ (tgt := 63) (show fhbk _ _ (.if_icmp .ne (7)) _ = true by decide +kernel) (fun hc => ?_) (fun hc => ?_)
  · simp only [if_neg hc] at h
    refine fhW.blk fhPF fhLL hΓ [(.iconst 0, 0)] (pc' := 64) (lv' := [(3, .int s0), (0, .ref 76), (1, .int v1), (2, .int v2)]) (st' := [.int (0 : Int32), .int s0]) (σ' := σ) (by decide +kernel) rfl rfl rfl ?_
    refine fhW.sub (lv' := [(0, .ref 76), (1, .int v1), (2, .int v2)]) [1, 2, 3] rfl ?_
    exact L_X1_isFitting_64 hE hΓ hd v1 v2 (0 : Int32) s0 σ _ h hk
  · simp only [if_pos hc] at h
    refine fhW.blk fhPF fhLL hΓ [(.iconst 1, 1)] (pc' := 60) (lv' := [(3, .int s0), (0, .ref 76), (1, .int v1), (2, .int v2)]) (st' := [.int (1 : Int32), .int s0]) (σ' := σ) (by decide +kernel) rfl rfl rfl ?_
    refine fhW.goto hΓ (off := 4) (tgt := 64) (by decide +kernel) ?_
    refine fhW.sub (lv' := [(0, .ref 76), (1, .int v1), (2, .int v2)]) [1, 2, 3] rfl ?_
    exact L_X1_isFitting_64 hE hΓ hd v1 v2 (1 : Int32) s0 σ _ h hk
set_option maxRecDepth 100000 in
set_option maxHeartbeats 4000000 in
theorem L_X1_isFitting_2 {Γ : fhX} (hE : fhEok fhYF (fhEn Γ)) (hΓ : fhOk fhYF 1 cX1_isFitting 4 (some .boolean) Γ) (hd : 2 ≤ fhD Γ) (v1 : Int32) (v2 : Int32)  (σ : fhM) (o : (Int32) ⊕ (Bool)) (h : f_X1_isFitting_2 v1 v2 σ = some o) (hk : (fhK (fun x => fhW fhYF Γ 2 [(0, .ref 76), (1, .int v1), (2, .int x)] [] σ) (fun o => fhRet Γ (some (.int (fhb o))) σ)) o) : fhW fhYF Γ 2 [(0, .ref 76), (1, .int v1), (2, .int v2)] [] σ := by
  unfold f_X1_isFitting_2 at h
  refine fhW.blk fhPF fhLL hΓ [(.iload_n 2, 0), (.iconst 3, 3), (.aload_n 0, 0), (.getfield 49, 0), (.imul, 0)] (pc' := 9) (lv' := [(0, .ref 76), (1, .int v1), (2, .int v2)]) (st' := [.int ((3 : Int32) * (σ.1 76 13)), .int v2]) (σ' := σ) (by decide +kernel) rfl rfl rfl ?_
  refine fhW.i_ge hΓ (tgt := 75) (show fhbk _ _ (.if_icmp .ge (66)) _ = true by decide +kernel) (fun hc => ?_) (fun hc => ?_)
  · rw [if_pos hc] at h
    refine fhW.blk fhPF fhLL hΓ [(.iconst 1, 1)] (pc' := 76) (lv' := [(0, .ref 76), (1, .int v1), (2, .int v2)]) (st' := [.int (1 : Int32)]) (σ' := σ) (by decide +kernel) rfl rfl rfl ?_
    have e9 := Option.some.inj h
    subst e9
    exact fhW.zret (v := true) hΓ (by decide +kernel) hk
  · rw [if_neg hc] at h
    refine fhW.blk fhPF fhLL hΓ [(.aload_n 0, 0), (.iload_n 1, 0), (.aload_n 0, 0), (.getfield 35, 0), (.iload_n 2, 0), (.iconst 1, 1), (.iadd, 0)] (pc' := 21) (lv' := [(0, .ref 76), (1, .int v1), (2, .int v2)]) (st' := [.int (v2 + (1 : Int32)), .ref 89, .int v1, .ref 76]) (σ' := σ) (by decide +kernel) rfl rfl rfl ?_
    refine fhW.callv hΓ mvX2_get ml_1_70 (t := 89) (ci := 2) (av := [.int (v2 + (1 : Int32))]) (rest := [.int v1, .ref 76]) (r := (some (.int (fcG σ 89 (v2 + (1 : Int32)))))) (σ' := σ) (T_X2_get (E := fhEn Γ) (d := fhD Γ - 1) hE (by omega) 89 (v2 + (1 : Int32)) rfl σ) (by omega) (by decide +kernel) rfl rfl rfl (Nat.le_of_ble_eq_true rfl) rfl ?_
    show fhW fhYF Γ 24 [(0, .ref 76), (1, .int v1), (2, .int v2)] [.int (fcG σ 89 (v2 + (1 : Int32))), .int v1, .ref 76] σ
    refine fhW.callv hΓ mvX1_firstKnown ml_1_101 (t := 76) (ci := 1) (av := [.int v1, .int (fcG σ 89 (v2 + (1 : Int32)))]) (rest := []) (r := (some (.int (f_X1_firstKnown v1 (fcG σ 89 (v2 + (1 : Int32))) σ)))) (σ' := σ) (T_X1_firstKnown (E := fhEn Γ) (d := fhD Γ - 1) hE (by omega) v1 (fcG σ 89 (v2 + (1 : Int32))) σ) (by omega) (by decide +kernel) rfl rfl rfl (Nat.le_of_ble_eq_true rfl) rfl ?_
    show fhW fhYF Γ 27 [(0, .ref 76), (1, .int v1), (2, .int v2)] [.int (f_X1_firstKnown v1 (fcG σ 89 (v2 + (1 : Int32))) σ)] σ
    refine fhW.blk fhPF fhLL hΓ [(.aload_n 0, 0), (.getfield 35, 0), (.iload_n 2, 0)] (pc' := 32) (lv' := [(0, .ref 76), (1, .int v1), (2, .int v2)]) (st' := [.int v2, .ref 89, .int (f_X1_firstKnown v1 (fcG σ 89 (v2 + (1 : Int32))) σ)]) (σ' := σ) (by decide +kernel) rfl rfl rfl ?_
    refine fhW.callv hΓ mvX2_get ml_1_70 (t := 89) (ci := 2) (av := [.int v2]) (rest := [.int (f_X1_firstKnown v1 (fcG σ 89 (v2 + (1 : Int32))) σ)]) (r := (some (.int (fcG σ 89 v2)))) (σ' := σ) (T_X2_get (E := fhEn Γ) (d := fhD Γ - 1) hE (by omega) 89 v2 rfl σ) (by omega) (by decide +kernel) rfl rfl rfl (Nat.le_of_ble_eq_true rfl) rfl ?_
    show fhW fhYF Γ 35 [(0, .ref 76), (1, .int v1), (2, .int v2)] [.int (fcG σ 89 v2), .int (f_X1_firstKnown v1 (fcG σ 89 (v2 + (1 : Int32))) σ)] σ
    refine fhW.i_gt hΓ (tgt := 42) (show fhbk _ _ (.if_icmp .gt (7)) _ = true by decide +kernel) (fun hc => ?_) (fun hc => ?_)
    · simp only [if_pos hc] at h
      refine fhW.blk fhPF fhLL hΓ [(.iconst 0, 0)] (pc' := 43) (lv' := [(0, .ref 76), (1, .int v1), (2, .int v2)]) (st' := [.int (0 : Int32)]) (σ' := σ) (by decide +kernel) rfl rfl rfl ?_
      refine fhW.sub (lv' := [(0, .ref 76), (1, .int v1), (2, .int v2)]) [0, 1, 2] rfl ?_
      exact L_X1_isFitting_43 hE hΓ hd v1 v2 (0 : Int32) σ _ h hk
    · simp only [if_neg hc] at h
      refine fhW.blk fhPF fhLL hΓ [(.iconst 1, 1)] (pc' := 39) (lv' := [(0, .ref 76), (1, .int v1), (2, .int v2)]) (st' := [.int (1 : Int32)]) (σ' := σ) (by decide +kernel) rfl rfl rfl ?_
      refine fhW.goto hΓ (off := 4) (tgt := 43) (by decide +kernel) ?_
      refine fhW.sub (lv' := [(0, .ref 76), (1, .int v1), (2, .int v2)]) [0, 1, 2] rfl ?_
      exact L_X1_isFitting_43 hE hΓ hd v1 v2 (1 : Int32) σ _ h hk
set_option maxRecDepth 100000 in
set_option maxHeartbeats 4000000 in
theorem L_X1_isFitting_E {Γ : fhX} (hE : fhEok fhYF (fhEn Γ)) (hΓ : fhOk fhYF 1 cX1_isFitting 4 (some .boolean) Γ) (hd : 2 ≤ fhD Γ) (v1 : Int32)  (σ : fhM) (o : Bool) (h : f_X1_isFitting v1 σ = some o) (hk : (fun o => fhRet Γ (some (.int (fhb o))) σ) o) : fhW fhYF Γ 0 [(0, .ref 76), (1, .int v1)] [] σ := by
  unfold f_X1_isFitting at h
  refine fhW.blk fhPF fhLL hΓ [(.iconst 0, 0), (.istore_n 2, 0)] (pc' := 2) (lv' := [(2, .int (0 : Int32)), (0, .ref 76), (1, .int v1)]) (st' := []) (σ' := σ) (by decide +kernel) rfl rfl rfl ?_
  refine fhW.sub (lv' := [(0, .ref 76), (1, .int v1), (2, .int (0 : Int32))]) [1, 2, 0] rfl ?_
  exact fhlp_ok (W := (fun x => fhW fhYF Γ 2 [(0, .ref 76), (1, .int v1), (2, .int x)] [] σ)) (B := (fun o => fhRet Γ (some (.int (fhb o))) σ)) (fun x o h hk => L_X1_isFitting_2 hE hΓ hd v1 x σ o h hk) (0 : Int32) _ h hk
set_option maxRecDepth 100000 in
theorem T_X1_isFitting {E : fhE} {d : Nat} (hE : fhEok fhYF E) (hd : 2 ≤ d) (v1 : Int32)  (σ : fhM) {o : Bool} (h : f_X1_isFitting v1 σ = some o) : fhC fhYF E d miX1_isFitting [.ref 76, .int v1] σ (some (.int (fhb o))) σ := by
  refine fhC.of (y := yX1_isFitting) (cc := cX1_isFitting) (nL := 4) (ret := (some .boolean)) 1 rfl (by decide +kernel) (Nat.le_of_ble_eq_true rfl) ?_
  intro Γ hΓ hR hD hEn
  subst hD; subst hEn
  exact L_X1_isFitting_E hE hΓ hd v1  σ _ h hR
set_option maxRecDepth 100000 in
set_option maxHeartbeats 4000000 in
theorem L_X1_findFitting_64 {Γ : fhX} (hE : fhEok fhYF (fhEn Γ)) (hΓ : fhOk fhYF 1 cX1_findFitting 3 none Γ) (hd : 5 ≤ fhD Γ) (v1 : Int32)  (σ : fhM) (o : (Int32 × fhM) ⊕ (fhM)) (h : f_X1_findFitting_64 v1 σ = some o) (hk : (fhK (fun x => fhW fhYF Γ 11 [(0, .ref 76), (1, .int x.1)] [] x.2) (fun o => fhRet Γ none o)) o) : fhW fhYF Γ 64 [(0, .ref 76), (1, .int v1)] [] σ := by
  unfold f_X1_findFitting_64 at h
  refine fhW.blk fhPF fhLL hΓ [(.iinc 1 1, 1)] (pc' := 67) (lv' := [(1, .int (v1 + (1 : Int32))), (0, .ref 76)]) (st' := []) (σ' := σ) (by decide +kernel) rfl rfl rfl ?_
  refine fhW.goto hΓ (off := (-56)) (tgt := 11) (by decide +kernel) ?_
  refine fhW.sub (lv' := [(0, .ref 76), (1, .int (v1 + (1 : Int32)))]) [1, 0] rfl ?_
  have e9 := Option.some.inj h
  subst e9
  exact hk
set_option maxRecDepth 100000 in
set_option maxHeartbeats 4000000 in
theorem L_X1_findFitting_11 {Γ : fhX} (hE : fhEok fhYF (fhEn Γ)) (hΓ : fhOk fhYF 1 cX1_findFitting 3 none Γ) (hd : 5 ≤ fhD Γ) (v1 : Int32)  (σ : fhM) (o : (Int32 × fhM) ⊕ (fhM)) (h : f_X1_findFitting_11 v1 σ = some o) (hk : (fhK (fun x => fhW fhYF Γ 11 [(0, .ref 76), (1, .int x.1)] [] x.2) (fun o => fhRet Γ none o)) o) : fhW fhYF Γ 11 [(0, .ref 76), (1, .int v1)] [] σ := by
  unfold f_X1_findFitting_11 at h
  refine fhW.blk fhPF fhLL hΓ [(.iload_n 1, 0), (.aload_n 0, 0), (.getfield 41, 0), (.getfield 62, 0)] (pc' := 19) (lv' := [(0, .ref 76), (1, .int v1)]) (st' := [.int (σ.1 39 12), .int v1]) (σ' := σ) (by decide +kernel) rfl rfl rfl ?_
  refine fhW.i_ge hΓ (tgt := 70) (show fhbk _ _ (.if_icmp .ge (51)) _ = true by decide +kernel) (fun hc => ?_) (fun hc => ?_)
  · rw [if_pos hc] at h
    have e9 := Option.some.inj h
    subst e9
    exact fhW.vret hΓ (by decide +kernel) hk
  · rw [if_neg hc] at h
    refine fhW.blk fhPF fhLL hΓ [(.aload_n 0, 0), (.getfield 41, 0), (.getfield 67, 0), (.iload_n 1, 0)] (pc' := 30) (lv' := [(0, .ref 76), (1, .int v1)]) (st' := [.int v1, .ref 54]) (σ' := σ) (by decide +kernel) rfl rfl rfl ?_
    refine fhW.callv hΓ mvX2_get ml_1_70 (t := 54) (ci := 2) (av := [.int v1]) (rest := []) (r := (some (.int (fcG σ 54 v1)))) (σ' := σ) (T_X2_get (E := fhEn Γ) (d := fhD Γ - 1) hE (by omega) 54 v1 rfl σ) (by omega) (by decide +kernel) rfl rfl rfl (Nat.le_of_ble_eq_true rfl) rfl ?_
    show fhW fhYF Γ 33 [(0, .ref 76), (1, .int v1)] [.int (fcG σ 54 v1)] σ
    refine fhW.blk fhPF fhLL hΓ [(.istore_n 2, 0), (.aload_n 0, 0), (.iload_n 2, 0)] (pc' := 36) (lv' := [(2, .int (fcG σ 54 v1)), (0, .ref 76), (1, .int v1)]) (st' := [.int (fcG σ 54 v1), .ref 76]) (σ' := σ) (by decide +kernel) rfl rfl rfl ?_
    obtain ⟨q2, hb1, h⟩ := Option.bind_eq_some_iff.mp h
    refine fhW.callv hΓ mvX1_isFitting ml_1_110 (t := 76) (ci := 1) (av := [.int (fcG σ 54 v1)]) (rest := []) (r := (some (.int (fhb q2)))) (σ' := σ) (T_X1_isFitting (E := fhEn Γ) (d := fhD Γ - 1) hE (by omega) (fcG σ 54 v1) σ hb1) (by omega) (by decide +kernel) rfl rfl rfl (Nat.le_of_ble_eq_true rfl) rfl ?_
    show fhW fhYF Γ 39 [(2, .int (fcG σ 54 v1)), (0, .ref 76), (1, .int v1)] [.int (fhb q2)] σ
    refine fhW.b_eq hΓ (tgt := 64) (show fhbk _ _ (.ifCond .eq (25)) _ = true by decide +kernel) (fun hc => ?_) (fun hc => ?_)
    · rw [if_neg hc] at h
      refine fhW.sub (lv' := [(0, .ref 76), (1, .int v1)]) [1, 2] rfl ?_
      exact L_X1_findFitting_64 hE hΓ hd v1 σ _ h hk
    · rw [if_pos hc] at h
      refine fhW.blk fhPF fhLL hΓ [(.aload_n 0, 0), (.getfield 38, 0), (.aload_n 0, 0), (.getfield 107, 0), (.iload_n 2, 0)] (pc' := 51) (lv' := [(2, .int (fcG σ 54 v1)), (0, .ref 76), (1, .int v1)]) (st' := [.int (fcG σ 54 v1), .int (σ.1 76 12), .ref 91]) (σ' := σ) (by decide +kernel) rfl rfl rfl ?_
      refine fhW.callv hΓ mvX2_put ml_1_74 (t := 91) (ci := 2) (av := [.int (σ.1 76 12), .int (fcG σ 54 v1)]) (rest := []) (r := none) (σ' := (fcP σ 91 (σ.1 76 12) (fcG σ 54 v1))) (T_X2_put (E := fhEn Γ) (d := fhD Γ - 1) hE (by omega) 91 (σ.1 76 12) (fcG σ 54 v1) rfl σ) (by omega) (by decide +kernel) rfl rfl rfl (Nat.le_of_ble_eq_true rfl) rfl ?_
      show fhW fhYF Γ 54 [(2, .int (fcG σ 54 v1)), (0, .ref 76), (1, .int v1)] [] (fcP σ 91 (σ.1 76 12) (fcG σ 54 v1))
      refine fhW.blk fhPF fhLL hΓ [(.aload_n 0, 0), (.dup, 0), (.getfield 107, 0), (.iconst 1, 1), (.iadd, 0), (.putfield 107, 0)] (pc' := 64) (lv' := [(2, .int (fcG σ 54 v1)), (0, .ref 76), (1, .int v1)]) (st' := []) (σ' := (fhI (fcP σ 91 (σ.1 76 12) (fcG σ 54 v1)) 76 12 ((σ.1 76 12) + (1 : Int32)))) (by decide +kernel) rfl rfl rfl ?_
      refine fhW.sub (lv' := [(0, .ref 76), (1, .int v1)]) [1, 2] rfl ?_
      exact L_X1_findFitting_64 hE hΓ hd v1 (fhI (fcP σ 91 (σ.1 76 12) (fcG σ 54 v1)) 76 12 ((σ.1 76 12) + (1 : Int32))) _ h hk
set_option maxRecDepth 100000 in
set_option maxHeartbeats 4000000 in
theorem L_X1_findFitting_E {Γ : fhX} (hE : fhEok fhYF (fhEn Γ)) (hΓ : fhOk fhYF 1 cX1_findFitting 3 none Γ) (hd : 5 ≤ fhD Γ)   (σ : fhM) (o : fhM) (h : f_X1_findFitting σ = some o) (hk : (fun o => fhRet Γ none o) o) : fhW fhYF Γ 0 [(0, .ref 76)] [] σ := by
  unfold f_X1_findFitting at h
  refine fhW.blk fhPF fhLL hΓ [(.aload_n 0, 0)] (pc' := 1) (lv' := [(0, .ref 76)]) (st' := [.ref 76]) (σ' := σ) (by decide +kernel) rfl rfl rfl ?_
  obtain ⟨q1, hb2, h⟩ := Option.bind_eq_some_iff.mp h
  refine fhW.callv hΓ mvX1_prepare ml_1_104 (t := 76) (ci := 1) (av := []) (rest := []) (r := none) (σ' := q1) (T_X1_prepare (E := fhEn Γ) (d := fhD Γ - 1) hE (by omega) σ hb2) (by omega) (by decide +kernel) rfl rfl rfl (Nat.le_of_ble_eq_true rfl) rfl ?_
  show fhW fhYF Γ 4 [(0, .ref 76)] [] q1
  refine fhW.blk fhPF fhLL hΓ [(.aload_n 0, 0), (.iconst 0, 0), (.putfield 107, 0), (.iconst 0, 0), (.istore_n 1, 0)] (pc' := 11) (lv' := [(1, .int (0 : Int32)), (0, .ref 76)]) (st' := []) (σ' := (fhI q1 76 12 (0 : Int32))) (by decide +kernel) rfl rfl rfl ?_
  refine fhW.sub (lv' := [(0, .ref 76), (1, .int (0 : Int32))]) [1, 0] rfl ?_
  exact fhlp_ok (W := (fun x => fhW fhYF Γ 11 [(0, .ref 76), (1, .int x.1)] [] x.2)) (B := (fun o => fhRet Γ none o)) (fun x o h hk => L_X1_findFitting_11 hE hΓ hd x.1 x.2 o h hk) ((0 : Int32), (fhI q1 76 12 (0 : Int32))) _ h hk
set_option maxRecDepth 100000 in
theorem T_X1_findFitting {E : fhE} {d : Nat} (hE : fhEok fhYF E) (hd : 5 ≤ d)   (σ : fhM) {o : fhM} (h : f_X1_findFitting σ = some o) : fhC fhYF E d miX1_findFitting [.ref 76] σ none o := by
  refine fhC.of (y := yX1_findFitting) (cc := cX1_findFitting) (nL := 3) (ret := none) 1 rfl (by decide +kernel) (Nat.le_of_ble_eq_true rfl) ?_
  intro Γ hΓ hR hD hEn
  subst hD; subst hEn
  exact L_X1_findFitting_E hE hΓ hd   σ _ h hR
set_option maxRecDepth 100000 in
set_option maxHeartbeats 4000000 in
theorem L_X11_fits_E {Γ : fhX} (hE : fhEok fhYF (fhEn Γ)) (hΓ : fhOk fhYF 11 cX11_fits 2 (some .int) Γ) (hd : 6 ≤ fhD Γ) (v1 : Int32)  (σ : fhM) (o : Int32 × fhM) (h : f_X11_fits v1 σ = some o) (hk : (fun o => fhRet Γ (some (.int o.1)) o.2) o) : fhW fhYF Γ 0 [(0, .ref 0), (1, .int v1)] [] σ := by
  unfold f_X11_fits at h
  refine fhW.blk fhPF fhLL hΓ [(.aload_n 0, 0), (.getfield 145, 0)] (pc' := 4) (lv' := [(0, .ref 0), (1, .int v1)]) (st' := [.int (σ.1 0 8)]) (σ' := σ) (by decide +kernel) rfl rfl rfl ?_
  refine fhW.z_eq hΓ (tgt := 12) (show fhbk _ _ (.ifCond .eq (8)) _ = true by decide +kernel) (fun hc => ?_) (fun hc => ?_)
  · rw [if_pos hc] at h
    refine fhW.blk fhPF fhLL hΓ [(.iconst (-1), -1)] (pc' := 13) (lv' := [(0, .ref 0), (1, .int v1)]) (st' := [.int (-1 : Int32)]) (σ' := σ) (by decide +kernel) rfl rfl rfl ?_
    have e9 := Option.some.inj h
    subst e9
    exact fhW.iret hΓ (by decide +kernel) hk
  · rw [if_neg hc] at h
    refine fhW.blk fhPF fhLL hΓ [(.iload_n 1, 0), (.iconst (-1), -1)] (pc' := 9) (lv' := [(0, .ref 0), (1, .int v1)]) (st' := [.int (-1 : Int32), .int v1]) (σ' := σ) (by decide +kernel) rfl rfl rfl ?_
    refine fhW.i_ge hΓ (tgt := 14) (show fhbk _ _ (.if_icmp .ge (5)) _ = true by decide +kernel) (fun hc => ?_) (fun hc => ?_)
    · rw [if_pos hc] at h
      refine fhW.blk fhPF fhLL hΓ [(.aload_n 0, 0), (.getfield 79, 0)] (pc' := 18) (lv' := [(0, .ref 0), (1, .int v1)]) (st' := [.ref 76]) (σ' := σ) (by decide +kernel) rfl rfl rfl ?_
      obtain ⟨q1, hb1, h⟩ := Option.bind_eq_some_iff.mp h
      refine fhW.callv hΓ mvX1_findFitting ml_11_311 (t := 76) (ci := 1) (av := []) (rest := []) (r := none) (σ' := q1) (T_X1_findFitting (E := fhEn Γ) (d := fhD Γ - 1) hE (by omega) σ hb1) (by omega) (by decide +kernel) rfl rfl rfl (Nat.le_of_ble_eq_true rfl) rfl ?_
      show fhW fhYF Γ 21 [(0, .ref 0), (1, .int v1)] [] q1
      refine fhW.blk fhPF fhLL hΓ [(.iload_n 1, 0), (.iconst (-1), -1)] (pc' := 23) (lv' := [(0, .ref 0), (1, .int v1)]) (st' := [.int (-1 : Int32), .int v1]) (σ' := q1) (by decide +kernel) rfl rfl rfl ?_
      refine fhW.i_ne hΓ (tgt := 34) (show fhbk _ _ (.if_icmp .ne (11)) _ = true by decide +kernel) (fun hc => ?_) (fun hc => ?_)
      · rw [if_neg hc] at h
        refine fhW.blk fhPF fhLL hΓ [(.iload_n 1, 0), (.aload_n 0, 0), (.getfield 79, 0), (.getfield 314, 0)] (pc' := 42) (lv' := [(0, .ref 0), (1, .int v1)]) (st' := [.int (q1.1 76 12), .int v1]) (σ' := q1) (by decide +kernel) rfl rfl rfl ?_
        refine fhW.i_ge hΓ (tgt := 59) (show fhbk _ _ (.if_icmp .ge (17)) _ = true by decide +kernel) (fun hc => ?_) (fun hc => ?_)
        · rw [if_pos hc] at h
          refine fhW.blk fhPF fhLL hΓ [(.iconst (-1), -1)] (pc' := 60) (lv' := [(0, .ref 0), (1, .int v1)]) (st' := [.int (-1 : Int32)]) (σ' := q1) (by decide +kernel) rfl rfl rfl ?_
          have e9 := Option.some.inj h
          subst e9
          exact fhW.iret hΓ (by decide +kernel) hk
        · rw [if_neg hc] at h
          refine fhW.blk fhPF fhLL hΓ [(.aload_n 0, 0), (.getfield 79, 0), (.getfield 317, 0), (.iload_n 1, 0)] (pc' := 53) (lv' := [(0, .ref 0), (1, .int v1)]) (st' := [.int v1, .ref 91]) (σ' := q1) (by decide +kernel) rfl rfl rfl ?_
          refine fhW.callv hΓ mvX2_get ml_11_117 (t := 91) (ci := 2) (av := [.int v1]) (rest := []) (r := (some (.int (fcG q1 91 v1)))) (σ' := q1) (T_X2_get (E := fhEn Γ) (d := fhD Γ - 1) hE (by omega) 91 v1 rfl q1) (by omega) (by decide +kernel) rfl rfl rfl (Nat.le_of_ble_eq_true rfl) rfl ?_
          show fhW fhYF Γ 56 [(0, .ref 0), (1, .int v1)] [.int (fcG q1 91 v1)] q1
          refine fhW.goto hΓ (off := 4) (tgt := 60) (by decide +kernel) ?_
          have e9 := Option.some.inj h
          subst e9
          exact fhW.iret hΓ (by decide +kernel) hk
      · rw [if_pos hc] at h
        refine fhW.blk fhPF fhLL hΓ [(.aload_n 0, 0), (.getfield 79, 0), (.getfield 314, 0)] (pc' := 33) (lv' := [(0, .ref 0), (1, .int v1)]) (st' := [.int (q1.1 76 12)]) (σ' := q1) (by decide +kernel) rfl rfl rfl ?_
        have e9 := Option.some.inj h
        subst e9
        exact fhW.iret hΓ (by decide +kernel) hk
    · rw [if_neg hc] at h
      refine fhW.blk fhPF fhLL hΓ [(.iconst (-1), -1)] (pc' := 13) (lv' := [(0, .ref 0), (1, .int v1)]) (st' := [.int (-1 : Int32)]) (σ' := σ) (by decide +kernel) rfl rfl rfl ?_
      have e9 := Option.some.inj h
      subst e9
      exact fhW.iret hΓ (by decide +kernel) hk
set_option maxRecDepth 100000 in
theorem T_X11_fits {E : fhE} {d : Nat} (hE : fhEok fhYF E) (hd : 6 ≤ d) (v1 : Int32)  (σ : fhM) {o : Int32 × fhM} (h : f_X11_fits v1 σ = some o) : fhC fhYF E d miX11_fits [.ref 0, .int v1] σ (some (.int o.1)) o.2 := by
  refine fhC.of (y := yX11_fits) (cc := cX11_fits) (nL := 2) (ret := (some .int)) 11 rfl (by decide +kernel) (Nat.le_of_ble_eq_true rfl) ?_
  intro Γ hΓ hR hD hEn
  subst hD; subst hEn
  exact L_X11_fits_E hE hΓ hd v1  σ _ h hR
set_option maxRecDepth 100000 in
set_option maxHeartbeats 4000000 in
theorem L_X1_marksFitting_4 {Γ : fhX} (hE : fhEok fhYF (fhEn Γ)) (hΓ : fhOk fhYF 1 cX1_marksFitting 4 (some .int) Γ) (hd : 2 ≤ fhD Γ) (v1 : Int32) (v2 : Int32) (v3 : Int32)  (σ : fhM) (o : (Int32 × Int32) ⊕ (Int32)) (h : f_X1_marksFitting_4 v1 v2 v3 σ = some o) (hk : (fhK (fun x => fhW fhYF Γ 4 [(0, .ref 76), (1, .int v1), (2, .int x.1), (3, .int x.2)] [] σ) (fun o => fhRet Γ (some (.int o)) σ)) o) : fhW fhYF Γ 4 [(0, .ref 76), (1, .int v1), (2, .int v2), (3, .int v3)] [] σ := by
  unfold f_X1_marksFitting_4 at h
  refine fhW.blk fhPF fhLL hΓ [(.iload_n 3, 0), (.aload_n 0, 0), (.getfield 107, 0)] (pc' := 9) (lv' := [(0, .ref 76), (1, .int v1), (2, .int v2), (3, .int v3)]) (st' := [.int (σ.1 76 12), .int v3]) (σ' := σ) (by decide +kernel) rfl rfl rfl ?_
  refine fhW.i_ge hΓ (tgt := 39) (show fhbk _ _ (.if_icmp .ge (30)) _ = true by decide +kernel) (fun hc => ?_) (fun hc => ?_)
  · rw [if_pos hc] at h
    refine fhW.blk fhPF fhLL hΓ [(.iload_n 2, 0)] (pc' := 40) (lv' := [(0, .ref 76), (1, .int v1), (2, .int v2), (3, .int v3)]) (st' := [.int v2]) (σ' := σ) (by decide +kernel) rfl rfl rfl ?_
    have e9 := Option.some.inj h
    subst e9
    exact fhW.iret hΓ (by decide +kernel) hk
  · rw [if_neg hc] at h
    refine fhW.blk fhPF fhLL hΓ [(.iload_n 2, 0), (.iconst 1, 1), (.aload_n 0, 0), (.getfield 41, 0), (.aload_n 0, 0), (.getfield 38, 0), (.iload_n 3, 0)] (pc' := 23) (lv' := [(0, .ref 76), (1, .int v1), (2, .int v2), (3, .int v3)]) (st' := [.int v3, .ref 91, .ref 39, .int (1 : Int32), .int v2]) (σ' := σ) (by decide +kernel) rfl rfl rfl ?_
    refine fhW.callv hΓ mvX2_get ml_1_70 (t := 91) (ci := 2) (av := [.int v3]) (rest := [.ref 39, .int (1 : Int32), .int v2]) (r := (some (.int (fcG σ 91 v3)))) (σ' := σ) (T_X2_get (E := fhEn Γ) (d := fhD Γ - 1) hE (by omega) 91 v3 rfl σ) (by omega) (by decide +kernel) rfl rfl rfl (Nat.le_of_ble_eq_true rfl) rfl ?_
    show fhW fhYF Γ 26 [(0, .ref 76), (1, .int v1), (2, .int v2), (3, .int v3)] [.int (fcG σ 91 v3), .ref 39, .int (1 : Int32), .int v2] σ
    refine fhW.blk fhPF fhLL hΓ [(.iload_n 1, 0)] (pc' := 27) (lv' := [(0, .ref 76), (1, .int v1), (2, .int v2), (3, .int v3)]) (st' := [.int v1, .int (fcG σ 91 v3), .ref 39, .int (1 : Int32), .int v2]) (σ' := σ) (by decide +kernel) rfl rfl rfl ?_
    refine fhW.callv hΓ mvX9_markOf ml_1_114 (t := 39) (ci := 9) (av := [.int (fcG σ 91 v3), .int v1]) (rest := [.int (1 : Int32), .int v2]) (r := (some (.int (f_X9_markOf (fcG σ 91 v3) v1 σ)))) (σ' := σ) (T_X9_markOf (E := fhEn Γ) (d := fhD Γ - 1) hE (by omega) (fcG σ 91 v3) v1 σ) (by omega) (by decide +kernel) rfl rfl rfl (Nat.le_of_ble_eq_true rfl) rfl ?_
    show fhW fhYF Γ 30 [(0, .ref 76), (1, .int v1), (2, .int v2), (3, .int v3)] [.int (f_X9_markOf (fcG σ 91 v3) v1 σ), .int (1 : Int32), .int v2] σ
    refine fhW.blk fhPF fhLL hΓ [(.ishl, 0), (.ior, 0), (.istore_n 2, 0)] (pc' := 33) (lv' := [(2, .int (v2 ||| ((1 : Int32) <<< ((f_X9_markOf (fcG σ 91 v3) v1 σ) &&& 31)))), (0, .ref 76), (1, .int v1), (3, .int v3)]) (st' := []) (σ' := σ) (by decide +kernel) rfl rfl rfl ?_
    obtain ⟨w2_1, e1, h⟩ := fhlet_elim h
    rw [← e1]
    refine fhW.blk fhPF fhLL hΓ [(.iinc 3 1, 1)] (pc' := 36) (lv' := [(3, .int (v3 + (1 : Int32))), (2, .int w2_1), (0, .ref 76), (1, .int v1)]) (st' := []) (σ' := σ) (by decide +kernel) rfl rfl rfl ?_
    refine fhW.goto hΓ (off := (-32)) (tgt := 4) (by decide +kernel) ?_
    refine fhW.sub (lv' := [(0, .ref 76), (1, .int v1), (2, .int w2_1), (3, .int (v3 + (1 : Int32)))]) [2, 3, 1, 0] rfl ?_
    have e9 := Option.some.inj h
    subst e9
    exact hk
set_option maxRecDepth 100000 in
set_option maxHeartbeats 4000000 in
theorem L_X1_marksFitting_E {Γ : fhX} (hE : fhEok fhYF (fhEn Γ)) (hΓ : fhOk fhYF 1 cX1_marksFitting 4 (some .int) Γ) (hd : 2 ≤ fhD Γ) (v1 : Int32)  (σ : fhM) (o : Int32) (h : f_X1_marksFitting v1 σ = some o) (hk : (fun o => fhRet Γ (some (.int o)) σ) o) : fhW fhYF Γ 0 [(0, .ref 76), (1, .int v1)] [] σ := by
  unfold f_X1_marksFitting at h
  refine fhW.blk fhPF fhLL hΓ [(.iconst 0, 0), (.istore_n 2, 0), (.iconst 0, 0), (.istore_n 3, 0)] (pc' := 4) (lv' := [(3, .int (0 : Int32)), (2, .int (0 : Int32)), (0, .ref 76), (1, .int v1)]) (st' := []) (σ' := σ) (by decide +kernel) rfl rfl rfl ?_
  refine fhW.sub (lv' := [(0, .ref 76), (1, .int v1), (2, .int (0 : Int32)), (3, .int (0 : Int32))]) [2, 3, 1, 0] rfl ?_
  exact fhlp_ok (W := (fun x => fhW fhYF Γ 4 [(0, .ref 76), (1, .int v1), (2, .int x.1), (3, .int x.2)] [] σ)) (B := (fun o => fhRet Γ (some (.int o)) σ)) (fun x o h hk => L_X1_marksFitting_4 hE hΓ hd v1 x.1 x.2 σ o h hk) ((0 : Int32), (0 : Int32)) _ h hk
set_option maxRecDepth 100000 in
theorem T_X1_marksFitting {E : fhE} {d : Nat} (hE : fhEok fhYF E) (hd : 2 ≤ d) (v1 : Int32)  (σ : fhM) {o : Int32} (h : f_X1_marksFitting v1 σ = some o) : fhC fhYF E d miX1_marksFitting [.ref 76, .int v1] σ (some (.int o)) σ := by
  refine fhC.of (y := yX1_marksFitting) (cc := cX1_marksFitting) (nL := 4) (ret := (some .int)) 1 rfl (by decide +kernel) (Nat.le_of_ble_eq_true rfl) ?_
  intro Γ hΓ hR hD hEn
  subst hD; subst hEn
  exact L_X1_marksFitting_E hE hΓ hd v1  σ _ h hR
set_option maxRecDepth 100000 in
set_option maxHeartbeats 4000000 in
theorem L_X11_could_E {Γ : fhX} (hE : fhEok fhYF (fhEn Γ)) (hΓ : fhOk fhYF 11 cX11_could 2 (some .int) Γ) (hd : 6 ≤ fhD Γ) (v1 : Int32)  (σ : fhM) (o : Int32 × fhM) (h : f_X11_could v1 σ = some o) (hk : (fun o => fhRet Γ (some (.int o.1)) o.2) o) : fhW fhYF Γ 0 [(0, .ref 0), (1, .int v1)] [] σ := by
  unfold f_X11_could at h
  refine fhW.blk fhPF fhLL hΓ [(.aload_n 0, 0), (.iload_n 1, 0)] (pc' := 2) (lv' := [(0, .ref 0), (1, .int v1)]) (st' := [.int v1, .ref 0]) (σ' := σ) (by decide +kernel) rfl rfl rfl ?_
  refine fhW.callv hΓ mvX11_isGuest ml_11_212 (t := 0) (ci := 11) (av := [.int v1]) (rest := []) (r := (some (.int (fhb (f_X11_isGuest v1 σ))))) (σ' := σ) (T_X11_isGuest (E := fhEn Γ) (d := fhD Γ - 1) hE (by omega) v1 σ) (by omega) (by decide +kernel) rfl rfl rfl (Nat.le_of_ble_eq_true rfl) rfl ?_
  show fhW fhYF Γ 5 [(0, .ref 0), (1, .int v1)] [.int (fhb (f_X11_isGuest v1 σ))] σ
  refine fhW.b_ne hΓ (tgt := 10) (show fhbk _ _ (.ifCond .ne (5)) _ = true by decide +kernel) (fun hc => ?_) (fun hc => ?_)
  · rw [if_pos hc] at h
    refine fhW.blk fhPF fhLL hΓ [(.aload_n 0, 0), (.getfield 79, 0)] (pc' := 14) (lv' := [(0, .ref 0), (1, .int v1)]) (st' := [.ref 76]) (σ' := σ) (by decide +kernel) rfl rfl rfl ?_
    obtain ⟨q1, hb1, h⟩ := Option.bind_eq_some_iff.mp h
    refine fhW.callv hΓ mvX1_findFitting ml_11_311 (t := 76) (ci := 1) (av := []) (rest := []) (r := none) (σ' := q1) (T_X1_findFitting (E := fhEn Γ) (d := fhD Γ - 1) hE (by omega) σ hb1) (by omega) (by decide +kernel) rfl rfl rfl (Nat.le_of_ble_eq_true rfl) rfl ?_
    show fhW fhYF Γ 17 [(0, .ref 0), (1, .int v1)] [] q1
    refine fhW.blk fhPF fhLL hΓ [(.aload_n 0, 0), (.getfield 79, 0), (.iload_n 1, 0)] (pc' := 22) (lv' := [(0, .ref 0), (1, .int v1)]) (st' := [.int v1, .ref 76]) (σ' := q1) (by decide +kernel) rfl rfl rfl ?_
    obtain ⟨q2, hb2, h⟩ := Option.bind_eq_some_iff.mp h
    refine fhW.callv hΓ mvX1_marksFitting ml_11_320 (t := 76) (ci := 1) (av := [.int v1]) (rest := []) (r := (some (.int q2))) (σ' := q1) (T_X1_marksFitting (E := fhEn Γ) (d := fhD Γ - 1) hE (by omega) v1 q1 hb2) (by omega) (by decide +kernel) rfl rfl rfl (Nat.le_of_ble_eq_true rfl) rfl ?_
    show fhW fhYF Γ 25 [(0, .ref 0), (1, .int v1)] [.int q2] q1
    have e9 := Option.some.inj h
    subst e9
    exact fhW.iret hΓ (by decide +kernel) hk
  · rw [if_neg hc] at h
    refine fhW.blk fhPF fhLL hΓ [(.iconst (-1), -1)] (pc' := 9) (lv' := [(0, .ref 0), (1, .int v1)]) (st' := [.int (-1 : Int32)]) (σ' := σ) (by decide +kernel) rfl rfl rfl ?_
    have e9 := Option.some.inj h
    subst e9
    exact fhW.iret hΓ (by decide +kernel) hk
set_option maxRecDepth 100000 in
theorem T_X11_could {E : fhE} {d : Nat} (hE : fhEok fhYF E) (hd : 6 ≤ d) (v1 : Int32)  (σ : fhM) {o : Int32 × fhM} (h : f_X11_could v1 σ = some o) : fhC fhYF E d miX11_could [.ref 0, .int v1] σ (some (.int o.1)) o.2 := by
  refine fhC.of (y := yX11_could) (cc := cX11_could) (nL := 2) (ret := (some .int)) 11 rfl (by decide +kernel) (Nat.le_of_ble_eq_true rfl) ?_
  intro Γ hΓ hR hD hEn
  subst hD; subst hEn
  exact L_X11_could_E hE hΓ hd v1  σ _ h hR
set_option maxRecDepth 100000 in
set_option maxHeartbeats 4000000 in
theorem L_X1_mostLeft_38 {Γ : fhX} (hE : fhEok fhYF (fhEn Γ)) (hΓ : fhOk fhYF 1 cX1_mostLeft 5 (some .int) Γ) (hd : 2 ≤ fhD Γ) (v1 : Int32) (v2 : Int32) (v4 : Int32) (s0 : Int32) (s1 : Int32)  (σ : fhM) (o : (Int32 × Int32) ⊕ (Int32)) (h : f_X1_mostLeft_38 v1 v2 v4 s0 s1 σ = some o) (hk : (fhK (fun x => fhW fhYF Γ 5 [(0, .ref 76), (1, .int v1), (2, .int v2), (3, .int x.1), (4, .int x.2)] [] σ) (fun o => fhRet Γ (some (.int o)) σ)) o) : fhW fhYF Γ 38 [(0, .ref 76), (1, .int v1), (2, .int v2), (4, .int v4)] [.int s0, .int s1] σ := by
  unfold f_X1_mostLeft_38 at h
  refine fhW.blk fhPF fhLL hΓ [(.iadd, 0), (.istore_n 3, 0), (.iinc 4 1, 1)] (pc' := 43) (lv' := [(4, .int (v4 + (1 : Int32))), (3, .int (s1 + s0)), (0, .ref 76), (1, .int v1), (2, .int v2)]) (st' := []) (σ' := σ) (by decide +kernel) rfl rfl rfl ?_
  refine fhW.goto hΓ (off := (-38)) (tgt := 5) (by decide +kernel) ?_
  refine fhW.sub (lv' := [(0, .ref 76), (1, .int v1), (2, .int v2), (3, .int (s1 + s0)), (4, .int (v4 + (1 : Int32)))]) [2, 3, 4, 1, 0] rfl ?_
  have e9 := Option.some.inj h
  subst e9
  exact hk
set_option maxRecDepth 100000 in
set_option maxHeartbeats 4000000 in
theorem L_X1_mostLeft_5 {Γ : fhX} (hE : fhEok fhYF (fhEn Γ)) (hΓ : fhOk fhYF 1 cX1_mostLeft 5 (some .int) Γ) (hd : 2 ≤ fhD Γ) (v1 : Int32) (v2 : Int32) (v3 : Int32) (v4 : Int32)  (σ : fhM) (o : (Int32 × Int32) ⊕ (Int32)) (h : f_X1_mostLeft_5 v1 v2 v3 v4 σ = some o) (hk : (fhK (fun x => fhW fhYF Γ 5 [(0, .ref 76), (1, .int v1), (2, .int v2), (3, .int x.1), (4, .int x.2)] [] σ) (fun o => fhRet Γ (some (.int o)) σ)) o) : fhW fhYF Γ 5 [(0, .ref 76), (1, .int v1), (2, .int v2), (3, .int v3), (4, .int v4)] [] σ := by
  unfold f_X1_mostLeft_5 at h
  refine fhW.blk fhPF fhLL hΓ [(.iload 4, 0), (.aload_n 0, 0), (.getfield 107, 0)] (pc' := 11) (lv' := [(0, .ref 76), (1, .int v1), (2, .int v2), (3, .int v3), (4, .int v4)]) (st' := [.int (σ.1 76 12), .int v4]) (σ' := σ) (by decide +kernel) rfl rfl rfl ?_
  refine fhW.i_ge hΓ (tgt := 46) (show fhbk _ _ (.if_icmp .ge (35)) _ = true by decide +kernel) (fun hc => ?_) (fun hc => ?_)
  · rw [if_pos hc] at h
    refine fhW.blk fhPF fhLL hΓ [(.iload_n 3, 0), (.aload_n 0, 0), (.getfield 107, 0), (.iload_n 3, 0), (.isub, 0)] (pc' := 53) (lv' := [(0, .ref 76), (1, .int v1), (2, .int v2), (3, .int v3), (4, .int v4)]) (st' := [.int ((σ.1 76 12) - v3), .int v3]) (σ' := σ) (by decide +kernel) rfl rfl rfl ?_
    refine fhW.calls hΓ msJ9_max_7cf53 ml_1_120 (av := [.int v3, .int ((σ.1 76 12) - v3)]) (rest := []) (r := (some (.int (f_J9_max_7cf53 v3 ((σ.1 76 12) - v3) σ)))) (σ' := σ) (T_J9_max_7cf53 (E := fhEn Γ) (d := fhD Γ - 1) hE (by omega) v3 ((σ.1 76 12) - v3) σ) (by omega) (by decide +kernel) rfl (Nat.le_of_ble_eq_true rfl) rfl ?_
    show fhW fhYF Γ 56 [(0, .ref 76), (1, .int v1), (2, .int v2), (3, .int v3), (4, .int v4)] [.int (f_J9_max_7cf53 v3 ((σ.1 76 12) - v3) σ)] σ
    have e9 := Option.some.inj h
    subst e9
    exact fhW.iret hΓ (by decide +kernel) hk
  · rw [if_neg hc] at h
    refine fhW.blk fhPF fhLL hΓ [(.iload_n 3, 0), (.aload_n 0, 0), (.aload_n 0, 0), (.getfield 38, 0), (.iload 4, 0)] (pc' := 22) (lv' := [(0, .ref 76), (1, .int v1), (2, .int v2), (3, .int v3), (4, .int v4)]) (st' := [.int v4, .ref 91, .ref 76, .int v3]) (σ' := σ) (by decide +kernel) rfl rfl rfl ?_
    refine fhW.callv hΓ mvX2_get ml_1_70 (t := 91) (ci := 2) (av := [.int v4]) (rest := [.ref 76, .int v3]) (r := (some (.int (fcG σ 91 v4)))) (σ' := σ) (T_X2_get (E := fhEn Γ) (d := fhD Γ - 1) hE (by omega) 91 v4 rfl σ) (by omega) (by decide +kernel) rfl rfl rfl (Nat.le_of_ble_eq_true rfl) rfl ?_
    show fhW fhYF Γ 25 [(0, .ref 76), (1, .int v1), (2, .int v2), (3, .int v3), (4, .int v4)] [.int (fcG σ 91 v4), .ref 76, .int v3] σ
    refine fhW.blk fhPF fhLL hΓ [(.iload_n 2, 0)] (pc' := 26) (lv' := [(0, .ref 76), (1, .int v1), (2, .int v2), (3, .int v3), (4, .int v4)]) (st' := [.int v2, .int (fcG σ 91 v4), .ref 76, .int v3]) (σ' := σ) (by decide +kernel) rfl rfl rfl ?_
    refine fhW.callv hΓ mvX1_firstKnown ml_1_101 (t := 76) (ci := 1) (av := [.int (fcG σ 91 v4), .int v2]) (rest := [.int v3]) (r := (some (.int (f_X1_firstKnown (fcG σ 91 v4) v2 σ)))) (σ' := σ) (T_X1_firstKnown (E := fhEn Γ) (d := fhD Γ - 1) hE (by omega) (fcG σ 91 v4) v2 σ) (by omega) (by decide +kernel) rfl rfl rfl (Nat.le_of_ble_eq_true rfl) rfl ?_
    show fhW fhYF Γ 29 [(0, .ref 76), (1, .int v1), (2, .int v2), (3, .int v3), (4, .int v4)] [.int (f_X1_firstKnown (fcG σ 91 v4) v2 σ), .int v3] σ
    refine fhW.blk fhPF fhLL hΓ [(.iload_n 1, 0)] (pc' := 30) (lv' := [(0, .ref 76), (1, .int v1), (2, .int v2), (3, .int v3), (4, .int v4)]) (st' := [.int v1, .int (f_X1_firstKnown (fcG σ 91 v4) v2 σ), .int v3]) (σ' := σ) (by decide +kernel) rfl rfl rfl ?_
    refine fhW.i_gt hΓ (tgt := 37) (show fhbk _ _ (.if_icmp .gt (7)) _ = true by decide +kernel) (fun hc => ?_) (fun hc => ?_)
    · simp only [if_pos hc] at h
      refine fhW.blk fhPF fhLL hΓ [(.iconst 0, 0)] (pc' := 38) (lv' := [(0, .ref 76), (1, .int v1), (2, .int v2), (3, .int v3), (4, .int v4)]) (st' := [.int (0 : Int32), .int v3]) (σ' := σ) (by decide +kernel) rfl rfl rfl ?_
      refine fhW.sub (lv' := [(0, .ref 76), (1, .int v1), (2, .int v2), (4, .int v4)]) [0, 1, 2, 4] rfl ?_
      exact L_X1_mostLeft_38 hE hΓ hd v1 v2 v4 (0 : Int32) v3 σ _ h hk
    · simp only [if_neg hc] at h
      refine fhW.blk fhPF fhLL hΓ [(.iconst 1, 1)] (pc' := 34) (lv' := [(0, .ref 76), (1, .int v1), (2, .int v2), (3, .int v3), (4, .int v4)]) (st' := [.int (1 : Int32), .int v3]) (σ' := σ) (by decide +kernel) rfl rfl rfl ?_
      refine fhW.goto hΓ (off := 4) (tgt := 38) (by decide +kernel) ?_
      refine fhW.sub (lv' := [(0, .ref 76), (1, .int v1), (2, .int v2), (4, .int v4)]) [0, 1, 2, 4] rfl ?_
      exact L_X1_mostLeft_38 hE hΓ hd v1 v2 v4 (1 : Int32) v3 σ _ h hk
set_option maxRecDepth 100000 in
set_option maxHeartbeats 4000000 in
theorem L_X1_mostLeft_E {Γ : fhX} (hE : fhEok fhYF (fhEn Γ)) (hΓ : fhOk fhYF 1 cX1_mostLeft 5 (some .int) Γ) (hd : 2 ≤ fhD Γ) (v1 : Int32) (v2 : Int32)  (σ : fhM) (o : Int32) (h : f_X1_mostLeft v1 v2 σ = some o) (hk : (fun o => fhRet Γ (some (.int o)) σ) o) : fhW fhYF Γ 0 [(0, .ref 76), (1, .int v1), (2, .int v2)] [] σ := by
  unfold f_X1_mostLeft at h
  refine fhW.blk fhPF fhLL hΓ [(.iconst 0, 0), (.istore_n 3, 0), (.iconst 0, 0), (.istore 4, 0)] (pc' := 5) (lv' := [(4, .int (0 : Int32)), (3, .int (0 : Int32)), (0, .ref 76), (1, .int v1), (2, .int v2)]) (st' := []) (σ' := σ) (by decide +kernel) rfl rfl rfl ?_
  refine fhW.sub (lv' := [(0, .ref 76), (1, .int v1), (2, .int v2), (3, .int (0 : Int32)), (4, .int (0 : Int32))]) [2, 3, 4, 1, 0] rfl ?_
  exact fhlp_ok (W := (fun x => fhW fhYF Γ 5 [(0, .ref 76), (1, .int v1), (2, .int v2), (3, .int x.1), (4, .int x.2)] [] σ)) (B := (fun o => fhRet Γ (some (.int o)) σ)) (fun x o h hk => L_X1_mostLeft_5 hE hΓ hd v1 v2 x.1 x.2 σ o h hk) ((0 : Int32), (0 : Int32)) _ h hk
set_option maxRecDepth 100000 in
theorem T_X1_mostLeft {E : fhE} {d : Nat} (hE : fhEok fhYF E) (hd : 2 ≤ d) (v1 : Int32) (v2 : Int32)  (σ : fhM) {o : Int32} (h : f_X1_mostLeft v1 v2 σ = some o) : fhC fhYF E d miX1_mostLeft [.ref 76, .int v1, .int v2] σ (some (.int o)) σ := by
  refine fhC.of (y := yX1_mostLeft) (cc := cX1_mostLeft) (nL := 5) (ret := (some .int)) 1 rfl (by decide +kernel) (Nat.le_of_ble_eq_true rfl) ?_
  intro Γ hΓ hR hD hEn
  subst hD; subst hEn
  exact L_X1_mostLeft_E hE hΓ hd v1 v2  σ _ h hR

