set_option maxRecDepth 100000 in
set_option maxHeartbeats 4000000 in
theorem L_X8_numberOf_5 {Γ : fhX} (hE : fhEok fhYF (fhEn Γ)) (hΓ : fhOk fhYF 8 cX8_numberOf 5 (some .int) Γ) (hd : 1 ≤ fhD Γ) (v0 : Nat) (v1 : Int32) (v2 : Int32) (v3 : Int32) (v4 : Int32) (hv0 : fhiC v0 = true) (σ : fhM) (o : (Int32 × Int32) ⊕ (Int32)) (h : f_X8_numberOf_5 v0 v1 v2 v3 v4 σ = some o) (hk : (fhK (fun x => fhW fhYF Γ 5 [(0, .ref v0), (1, .int v1), (2, .int v2), (3, .int x.1), (4, .int x.2)] [] σ) (fun o => fhRet Γ (some (.int o)) σ)) o) : fhW fhYF Γ 5 [(0, .ref v0), (1, .int v1), (2, .int v2), (3, .int v3), (4, .int v4)] [] σ := by
  unfold f_X8_numberOf_5 at h
  refine fhW.blk fhPF fhLL hΓ [(.iload 4, 0), (.iload_n 2, 0)] (pc' := 8) (lv' := [(0, .ref v0), (1, .int v1), (2, .int v2), (3, .int v3), (4, .int v4)]) (st' := [.int v2, .int v4]) (σ' := σ) (by decide +kernel) rfl rfl rfl ?_
  refine fhW.i_ge hΓ (tgt := 40) (show fhbk _ _ (.if_icmp .ge (32)) _ = true by decide +kernel) (fun hc => ?_) (fun hc => ?_)
  · rw [if_pos hc] at h
    refine fhW.blk fhPF fhLL hΓ [(.iload_n 3, 0)] (pc' := 41) (lv' := [(0, .ref v0), (1, .int v1), (2, .int v2), (3, .int v3), (4, .int v4)]) (st' := [.int v3]) (σ' := σ) (by decide +kernel) rfl rfl rfl ?_
    have e9 := Option.some.inj h
    subst e9
    exact fhW.iret hΓ (by decide +kernel) hk
  · rw [if_neg hc] at h
    refine fhW.blk fhPF fhLL hΓ [(.iload 4, 0), (.iload_n 1, 0), (.isub, 0), (.iconst 4, 4)] (pc' := 16) (lv' := [(0, .ref v0), (1, .int v1), (2, .int v2), (3, .int v3), (4, .int v4)]) (st' := [.int (4 : Int32), .int (v4 - v1)]) (σ' := σ) (by decide +kernel) rfl rfl rfl ?_
    refine fhW.i_ge hΓ (tgt := 40) (show fhbk _ _ (.if_icmp .ge (24)) _ = true by decide +kernel) (fun hc => ?_) (fun hc => ?_)
    · rw [if_pos hc] at h
      refine fhW.blk fhPF fhLL hΓ [(.iload_n 3, 0)] (pc' := 41) (lv' := [(0, .ref v0), (1, .int v1), (2, .int v2), (3, .int v3), (4, .int v4)]) (st' := [.int v3]) (σ' := σ) (by decide +kernel) rfl rfl rfl ?_
      have e9 := Option.some.inj h
      subst e9
      exact fhW.iret hΓ (by decide +kernel) hk
    · rw [if_neg hc] at h
      refine fhW.blk fhPF fhLL hΓ [(.iload_n 3, 0), (.bipush 10, 10), (.imul, 0), (.aload_n 0, 0), (.iload 4, 0)] (pc' := 26) (lv' := [(0, .ref v0), (1, .int v1), (2, .int v2), (3, .int v3), (4, .int v4)]) (st' := [.int v4, .ref v0, .int (v3 * (10 : Int32))]) (σ' := σ) (by decide +kernel) rfl rfl rfl ?_
      refine fhW.callv hΓ mvX2_get ml_8_36 (t := v0) (ci := 2) (av := [.int v4]) (rest := [.int (v3 * (10 : Int32))]) (r := (some (.int (fcG σ v0 v4)))) (σ' := σ) (T_X2_get (E := fhEn Γ) (d := fhD Γ - 1) hE (by omega) v0 v4 hv0 σ) (by omega) (by decide +kernel) rfl (fhiC_g hv0) rfl (Nat.le_of_ble_eq_true rfl) rfl ?_
      show fhW fhYF Γ 29 [(0, .ref v0), (1, .int v1), (2, .int v2), (3, .int v3), (4, .int v4)] [.int (fcG σ v0 v4), .int (v3 * (10 : Int32))] σ
      refine fhW.blk fhPF fhLL hΓ [(.iadd, 0), (.bipush 48, 48), (.isub, 0), (.istore_n 3, 0)] (pc' := 34) (lv' := [(3, .int (((v3 * (10 : Int32)) + (fcG σ v0 v4)) - (48 : Int32))), (0, .ref v0), (1, .int v1), (2, .int v2), (4, .int v4)]) (st' := []) (σ' := σ) (by decide +kernel) rfl rfl rfl ?_
      obtain ⟨w3_1, e1, h⟩ := fhlet_elim h
      rw [← e1]
      refine fhW.blk fhPF fhLL hΓ [(.iinc 4 1, 1)] (pc' := 37) (lv' := [(4, .int (v4 + (1 : Int32))), (3, .int w3_1), (0, .ref v0), (1, .int v1), (2, .int v2)]) (st' := []) (σ' := σ) (by decide +kernel) rfl rfl rfl ?_
      refine fhW.goto hΓ (off := (-32)) (tgt := 5) (by decide +kernel) ?_
      refine fhW.sub (lv' := [(0, .ref v0), (1, .int v1), (2, .int v2), (3, .int w3_1), (4, .int (v4 + (1 : Int32)))]) [2, 3, 4, 1, 0] rfl ?_
      have e9 := Option.some.inj h
      subst e9
      exact hk
set_option maxRecDepth 100000 in
set_option maxHeartbeats 4000000 in
theorem L_X8_numberOf_E {Γ : fhX} (hE : fhEok fhYF (fhEn Γ)) (hΓ : fhOk fhYF 8 cX8_numberOf 5 (some .int) Γ) (hd : 1 ≤ fhD Γ) (v0 : Nat) (v1 : Int32) (v2 : Int32) (hv0 : fhiC v0 = true) (σ : fhM) (o : Int32) (h : f_X8_numberOf v0 v1 v2 σ = some o) (hk : (fun o => fhRet Γ (some (.int o)) σ) o) : fhW fhYF Γ 0 [(0, .ref v0), (1, .int v1), (2, .int v2)] [] σ := by
  unfold f_X8_numberOf at h
  refine fhW.blk fhPF fhLL hΓ [(.iconst 0, 0), (.istore_n 3, 0), (.iload_n 1, 0), (.istore 4, 0)] (pc' := 5) (lv' := [(4, .int v1), (3, .int (0 : Int32)), (0, .ref v0), (1, .int v1), (2, .int v2)]) (st' := []) (σ' := σ) (by decide +kernel) rfl rfl rfl ?_
  refine fhW.sub (lv' := [(0, .ref v0), (1, .int v1), (2, .int v2), (3, .int (0 : Int32)), (4, .int v1)]) [2, 3, 4, 1, 0] rfl ?_
  exact fhlp_ok (W := (fun x => fhW fhYF Γ 5 [(0, .ref v0), (1, .int v1), (2, .int v2), (3, .int x.1), (4, .int x.2)] [] σ)) (B := (fun o => fhRet Γ (some (.int o)) σ)) (fun x o h hk => L_X8_numberOf_5 hE hΓ hd v0 v1 v2 x.1 x.2 hv0 σ o h hk) ((0 : Int32), v1) _ h hk
set_option maxRecDepth 100000 in
theorem T_X8_numberOf {E : fhE} {d : Nat} (hE : fhEok fhYF E) (hd : 1 ≤ d) (v0 : Nat) (v1 : Int32) (v2 : Int32) (hv0 : fhiC v0 = true) (σ : fhM) {o : Int32} (h : f_X8_numberOf v0 v1 v2 σ = some o) : fhC fhYF E d miX8_numberOf [.ref v0, .int v1, .int v2] σ (some (.int o)) σ := by
  refine fhC.of (y := yX8_numberOf) (cc := cX8_numberOf) (nL := 5) (ret := (some .int)) 8 rfl (by decide +kernel) (Nat.le_of_ble_eq_true rfl) ?_
  intro Γ hΓ hR hD hEn
  subst hD; subst hEn
  exact L_X8_numberOf_E hE hΓ hd v0 v1 v2 hv0 σ _ h hR
set_option maxRecDepth 100000 in
set_option maxHeartbeats 4000000 in
theorem L_X8_cutPiece_246 {Γ : fhX} (hE : fhEok fhYF (fhEn Γ)) (hΓ : fhOk fhYF 8 cX8_cutPiece 9 (some .int) Γ) (hd : 7 ≤ fhD Γ) (v4 : Int32) (s0 : Int32) (s1 : Int32)  (σ : fhM) (o : Int32 × fhM) (h : f_X8_cutPiece_246 v4 s0 s1 σ = some o) (hk : (fun o => fhRet Γ (some (.int o.1)) o.2) o) : fhW fhYF Γ 246 [(0, .ref 3), (4, .int v4)] [.int s0, .int s1, .ref 4] σ := by
  unfold f_X8_cutPiece_246 at h
  refine fhW.callv hΓ mvX2_put ml_8_54 (t := 4) (ci := 2) (av := [.int s1, .int s0]) (rest := []) (r := none) (σ' := (fcP σ 4 s1 s0)) (T_X2_put (E := fhEn Γ) (d := fhD Γ - 1) hE (by omega) 4 s1 s0 rfl σ) (by omega) (by decide +kernel) rfl rfl rfl (Nat.le_of_ble_eq_true rfl) rfl ?_
  show fhW fhYF Γ 249 [(0, .ref 3), (4, .int v4)] [] (fcP σ 4 s1 s0)
  refine fhW.blk fhPF fhLL hΓ [(.aload_n 0, 0), (.dup, 0), (.getfield 30, 0), (.iconst 1, 1), (.iadd, 0), (.putfield 30, 0), (.iload 4, 0)] (pc' := 261) (lv' := [(0, .ref 3), (4, .int v4)]) (st' := [.int v4]) (σ' := (fhI (fcP σ 4 s1 s0) 3 1 ((σ.1 3 1) + (1 : Int32)))) (by decide +kernel) rfl rfl rfl ?_
  have e9 := Option.some.inj h
  subst e9
  exact fhW.iret hΓ (by decide +kernel) hk
set_option maxRecDepth 100000 in
set_option maxHeartbeats 4000000 in
theorem L_X8_cutPiece_220 {Γ : fhX} (hE : fhEok fhYF (fhEn Γ)) (hΓ : fhOk fhYF 8 cX8_cutPiece 9 (some .int) Γ) (hd : 7 ≤ fhD Γ) (v3 : Int32) (v4 : Int32) (v5 : Int32) (v8 : Int32) (s0 : Int32) (s1 : Int32)  (σ : fhM) (o : Int32 × fhM) (h : f_X8_cutPiece_220 v3 v4 v5 v8 s0 s1 σ = some o) (hk : (fun o => fhRet Γ (some (.int o.1)) o.2) o) : fhW fhYF Γ 220 [(0, .ref 3), (3, .int v3), (4, .int v4), (5, .int v5), (8, .int v8)] [.int s0, .int s1, .ref 4] σ := by
  unfold f_X8_cutPiece_220 at h
  refine fhW.callv hΓ mvX2_put ml_8_54 (t := 4) (ci := 2) (av := [.int s1, .int s0]) (rest := []) (r := none) (σ' := (fcP σ 4 s1 s0)) (T_X2_put (E := fhEn Γ) (d := fhD Γ - 1) hE (by omega) 4 s1 s0 rfl σ) (by omega) (by decide +kernel) rfl rfl rfl (Nat.le_of_ble_eq_true rfl) rfl ?_
  show fhW fhYF Γ 223 [(0, .ref 3), (3, .int v3), (4, .int v4), (5, .int v5), (8, .int v8)] [] (fcP σ 4 s1 s0)
  refine fhW.blk fhPF fhLL hΓ [(.aload_n 0, 0), (.getfield 16, 0), (.iload 5, 0), (.iconst 4, 4), (.iadd, 0), (.iload_n 3, 0), (.iconst 1, 1)] (pc' := 233) (lv' := [(0, .ref 3), (3, .int v3), (4, .int v4), (5, .int v5), (8, .int v8)]) (st' := [.int (1 : Int32), .int v3, .int (v5 + (4 : Int32)), .ref 4]) (σ' := (fcP σ 4 s1 s0)) (by decide +kernel) rfl rfl rfl ?_
  refine fhW.i_ne hΓ (tgt := 244) (show fhbk _ _ (.if_icmp .ne (11)) _ = true by decide +kernel) (fun hc => ?_) (fun hc => ?_)
  · simp only [if_neg hc] at h
    refine fhW.blk fhPF fhLL hΓ [(.bipush 99, 99)] (pc' := 246) (lv' := [(0, .ref 3), (3, .int v3), (4, .int v4), (5, .int v5), (8, .int v8)]) (st' := [.int (99 : Int32), .int (v5 + (4 : Int32)), .ref 4]) (σ' := (fcP σ 4 s1 s0)) (by decide +kernel) rfl rfl rfl ?_
    refine fhW.sub (lv' := [(0, .ref 3), (4, .int v4)]) [0, 2] rfl ?_
    exact L_X8_cutPiece_246 hE hΓ hd v4 (99 : Int32) (v5 + (4 : Int32)) (fcP σ 4 s1 s0) _ h hk
  · simp only [if_pos hc] at h
    refine fhW.blk fhPF fhLL hΓ [(.iload 8, 0)] (pc' := 238) (lv' := [(0, .ref 3), (3, .int v3), (4, .int v4), (5, .int v5), (8, .int v8)]) (st' := [.int v8, .int (v5 + (4 : Int32)), .ref 4]) (σ' := (fcP σ 4 s1 s0)) (by decide +kernel) rfl rfl rfl ?_
    refine fhW.calls hΓ msX8_wordNumber ml_8_61 (av := [.int v8]) (rest := [.int (v5 + (4 : Int32)), .ref 4]) (r := (some (.int (f_X8_wordNumber v8 (fcP σ 4 s1 s0))))) (σ' := (fcP σ 4 s1 s0)) (T_X8_wordNumber (E := fhEn Γ) (d := fhD Γ - 1) hE (by omega) v8 (fcP σ 4 s1 s0)) (by omega) (by decide +kernel) rfl (Nat.le_of_ble_eq_true rfl) rfl ?_
    show fhW fhYF Γ 241 [(0, .ref 3), (3, .int v3), (4, .int v4), (5, .int v5), (8, .int v8)] [.int (f_X8_wordNumber v8 (fcP σ 4 s1 s0)), .int (v5 + (4 : Int32)), .ref 4] (fcP σ 4 s1 s0)
    refine fhW.goto hΓ (off := 5) (tgt := 246) (by decide +kernel) ?_
    refine fhW.sub (lv' := [(0, .ref 3), (4, .int v4)]) [0, 2] rfl ?_
    exact L_X8_cutPiece_246 hE hΓ hd v4 (f_X8_wordNumber v8 (fcP σ 4 s1 s0)) (v5 + (4 : Int32)) (fcP σ 4 s1 s0) _ h hk
set_option maxRecDepth 100000 in
set_option maxHeartbeats 4000000 in
theorem L_X8_cutPiece_179 {Γ : fhX} (hE : fhEok fhYF (fhEn Γ)) (hΓ : fhOk fhYF 8 cX8_cutPiece 9 (some .int) Γ) (hd : 7 ≤ fhD Γ) (v1 : Nat) (v2 : Int32) (v3 : Int32) (v4 : Int32) (v5 : Int32) (v8 : Int32) (s0 : Int32) (s1 : Int32) (hv1 : fhiC v1 = true) (σ : fhM) (o : Int32 × fhM) (h : f_X8_cutPiece_179 v1 v2 v3 v4 v5 v8 s0 s1 σ = some o) (hk : (fun o => fhRet Γ (some (.int o.1)) o.2) o) : fhW fhYF Γ 179 [(0, .ref 3), (1, .ref v1), (2, .int v2), (3, .int v3), (4, .int v4), (5, .int v5), (8, .int v8)] [.int s0, .int s1, .ref 4] σ := by
  unfold f_X8_cutPiece_179 at h
  refine fhW.callv hΓ mvX2_put ml_8_54 (t := 4) (ci := 2) (av := [.int s1, .int s0]) (rest := []) (r := none) (σ' := (fcP σ 4 s1 s0)) (T_X2_put (E := fhEn Γ) (d := fhD Γ - 1) hE (by omega) 4 s1 s0 rfl σ) (by omega) (by decide +kernel) rfl rfl rfl (Nat.le_of_ble_eq_true rfl) rfl ?_
  show fhW fhYF Γ 182 [(0, .ref 3), (1, .ref v1), (2, .int v2), (3, .int v3), (4, .int v4), (5, .int v5), (8, .int v8)] [] (fcP σ 4 s1 s0)
  refine fhW.blk fhPF fhLL hΓ [(.aload_n 0, 0), (.getfield 16, 0), (.iload 5, 0), (.iconst 3, 3), (.iadd, 0), (.iload_n 3, 0), (.iconst 1, 1)] (pc' := 192) (lv' := [(0, .ref 3), (1, .ref v1), (2, .int v2), (3, .int v3), (4, .int v4), (5, .int v5), (8, .int v8)]) (st' := [.int (1 : Int32), .int v3, .int (v5 + (3 : Int32)), .ref 4]) (σ' := (fcP σ 4 s1 s0)) (by decide +kernel) rfl rfl rfl ?_
  refine fhW.i_ne hΓ (tgt := 200) (show fhbk _ _ (.if_icmp .ne (8)) _ = true by decide +kernel) (fun hc => ?_) (fun hc => ?_)
  · rw [if_neg hc] at h
    refine fhW.blk fhPF fhLL hΓ [(.iload_n 3, 0), (.iconst 2, 2)] (pc' := 202) (lv' := [(0, .ref 3), (1, .ref v1), (2, .int v2), (3, .int v3), (4, .int v4), (5, .int v5), (8, .int v8)]) (st' := [.int (2 : Int32), .int v3, .int (v5 + (3 : Int32)), .ref 4]) (σ' := (fcP σ 4 s1 s0)) (by decide +kernel) rfl rfl rfl ?_
    refine fhW.i_ne hΓ (tgt := 215) (show fhbk _ _ (.if_icmp .ne (13)) _ = true by decide +kernel) (fun hc => ?_) (fun hc => ?_)
    · rw [if_neg hc] at h
      refine fhW.blk fhPF fhLL hΓ [(.aload_n 1, 0), (.iload_n 2, 0)] (pc' := 217) (lv' := [(0, .ref 3), (1, .ref v1), (2, .int v2), (3, .int v3), (4, .int v4), (5, .int v5), (8, .int v8)]) (st' := [.int v2, .ref v1, .int (v5 + (3 : Int32)), .ref 4]) (σ' := (fcP σ 4 s1 s0)) (by decide +kernel) rfl rfl rfl ?_
      refine fhW.callv hΓ mvX2_get ml_8_36 (t := v1) (ci := 2) (av := [.int v2]) (rest := [.int (v5 + (3 : Int32)), .ref 4]) (r := (some (.int (fcG (fcP σ 4 s1 s0) v1 v2)))) (σ' := (fcP σ 4 s1 s0)) (T_X2_get (E := fhEn Γ) (d := fhD Γ - 1) hE (by omega) v1 v2 hv1 (fcP σ 4 s1 s0)) (by omega) (by decide +kernel) rfl (fhiC_g hv1) rfl (Nat.le_of_ble_eq_true rfl) rfl ?_
      show fhW fhYF Γ 220 [(0, .ref 3), (1, .ref v1), (2, .int v2), (3, .int v3), (4, .int v4), (5, .int v5), (8, .int v8)] [.int (fcG (fcP σ 4 s1 s0) v1 v2), .int (v5 + (3 : Int32)), .ref 4] (fcP σ 4 s1 s0)
      refine fhW.sub (lv' := [(0, .ref 3), (3, .int v3), (4, .int v4), (5, .int v5), (8, .int v8)]) [0, 3, 4, 5, 6] rfl ?_
      exact L_X8_cutPiece_220 hE hΓ hd v3 v4 v5 v8 (fcG (fcP σ 4 s1 s0) v1 v2) (v5 + (3 : Int32)) (fcP σ 4 s1 s0) _ h hk
    · rw [if_pos hc] at h
      refine fhW.blk fhPF fhLL hΓ [(.aload_n 1, 0), (.iload_n 2, 0), (.iload 4, 0)] (pc' := 209) (lv' := [(0, .ref 3), (1, .ref v1), (2, .int v2), (3, .int v3), (4, .int v4), (5, .int v5), (8, .int v8)]) (st' := [.int v4, .int v2, .ref v1, .int (v5 + (3 : Int32)), .ref 4]) (σ' := (fcP σ 4 s1 s0)) (by decide +kernel) rfl rfl rfl ?_
      obtain ⟨q2, hb1, h⟩ := Option.bind_eq_some_iff.mp h
      refine fhW.calls hΓ msX8_numberOf ml_8_58 (av := [.ref v1, .int v2, .int v4]) (rest := [.int (v5 + (3 : Int32)), .ref 4]) (r := (some (.int q2))) (σ' := (fcP σ 4 s1 s0)) (T_X8_numberOf (E := fhEn Γ) (d := fhD Γ - 1) hE (by omega) v1 v2 v4 hv1 (fcP σ 4 s1 s0) hb1) (by omega) (by decide +kernel) rfl (Nat.le_of_ble_eq_true rfl) rfl ?_
      show fhW fhYF Γ 212 [(0, .ref 3), (1, .ref v1), (2, .int v2), (3, .int v3), (4, .int v4), (5, .int v5), (8, .int v8)] [.int q2, .int (v5 + (3 : Int32)), .ref 4] (fcP σ 4 s1 s0)
      refine fhW.goto hΓ (off := 8) (tgt := 220) (by decide +kernel) ?_
      refine fhW.sub (lv' := [(0, .ref 3), (3, .int v3), (4, .int v4), (5, .int v5), (8, .int v8)]) [0, 3, 4, 5, 6] rfl ?_
      exact L_X8_cutPiece_220 hE hΓ hd v3 v4 v5 v8 q2 (v5 + (3 : Int32)) (fcP σ 4 s1 s0) _ h hk
  · rw [if_pos hc] at h
    refine fhW.blk fhPF fhLL hΓ [(.iload 8, 0)] (pc' := 197) (lv' := [(0, .ref 3), (1, .ref v1), (2, .int v2), (3, .int v3), (4, .int v4), (5, .int v5), (8, .int v8)]) (st' := [.int v8, .int (v5 + (3 : Int32)), .ref 4]) (σ' := (fcP σ 4 s1 s0)) (by decide +kernel) rfl rfl rfl ?_
    refine fhW.goto hΓ (off := 23) (tgt := 220) (by decide +kernel) ?_
    refine fhW.sub (lv' := [(0, .ref 3), (3, .int v3), (4, .int v4), (5, .int v5), (8, .int v8)]) [0, 3, 4, 5, 6] rfl ?_
    exact L_X8_cutPiece_220 hE hΓ hd v3 v4 v5 v8 v8 (v5 + (3 : Int32)) (fcP σ 4 s1 s0) _ h hk
set_option maxRecDepth 100000 in
set_option maxHeartbeats 4000000 in
theorem L_X8_cutPiece_136 {Γ : fhX} (hE : fhEok fhYF (fhEn Γ)) (hΓ : fhOk fhYF 8 cX8_cutPiece 9 (some .int) Γ) (hd : 7 ≤ fhD Γ) (v1 : Nat) (v2 : Int32) (v3 : Int32) (v4 : Int32) (v5 : Int32) (v7 : Int32) (s0 : Int32) (hv1 : fhiC v1 = true) (σ : fhM) (o : Int32 × fhM) (h : f_X8_cutPiece_136 v1 v2 v3 v4 v5 v7 s0 σ = some o) (hk : (fun o => fhRet Γ (some (.int o.1)) o.2) o) : fhW fhYF Γ 136 [(0, .ref 3), (1, .ref v1), (2, .int v2), (3, .int v3), (4, .int v4), (5, .int v5), (7, .int v7)] [.int s0] σ := by
  unfold f_X8_cutPiece_136 at h
  refine fhW.blk fhPF fhLL hΓ [(.istore 8, 0), (.aload_n 0, 0), (.getfield 16, 0), (.iload 5, 0), (.iload_n 2, 0)] (pc' := 145) (lv' := [(8, .int s0), (0, .ref 3), (1, .ref v1), (2, .int v2), (3, .int v3), (4, .int v4), (5, .int v5), (7, .int v7)]) (st' := [.int v2, .int v5, .ref 4]) (σ' := σ) (by decide +kernel) rfl rfl rfl ?_
  refine fhW.callv hΓ mvX2_put ml_8_54 (t := 4) (ci := 2) (av := [.int v5, .int v2]) (rest := []) (r := none) (σ' := (fcP σ 4 v5 v2)) (T_X2_put (E := fhEn Γ) (d := fhD Γ - 1) hE (by omega) 4 v5 v2 rfl σ) (by omega) (by decide +kernel) rfl rfl rfl (Nat.le_of_ble_eq_true rfl) rfl ?_
  show fhW fhYF Γ 148 [(8, .int s0), (0, .ref 3), (1, .ref v1), (2, .int v2), (3, .int v3), (4, .int v4), (5, .int v5), (7, .int v7)] [] (fcP σ 4 v5 v2)
  refine fhW.blk fhPF fhLL hΓ [(.aload_n 0, 0), (.getfield 16, 0), (.iload 5, 0), (.iconst 1, 1), (.iadd, 0), (.iload 4, 0)] (pc' := 158) (lv' := [(8, .int s0), (0, .ref 3), (1, .ref v1), (2, .int v2), (3, .int v3), (4, .int v4), (5, .int v5), (7, .int v7)]) (st' := [.int v4, .int (v5 + (1 : Int32)), .ref 4]) (σ' := (fcP σ 4 v5 v2)) (by decide +kernel) rfl rfl rfl ?_
  refine fhW.callv hΓ mvX2_put ml_8_54 (t := 4) (ci := 2) (av := [.int (v5 + (1 : Int32)), .int v4]) (rest := []) (r := none) (σ' := (fcP (fcP σ 4 v5 v2) 4 (v5 + (1 : Int32)) v4)) (T_X2_put (E := fhEn Γ) (d := fhD Γ - 1) hE (by omega) 4 (v5 + (1 : Int32)) v4 rfl (fcP σ 4 v5 v2)) (by omega) (by decide +kernel) rfl rfl rfl (Nat.le_of_ble_eq_true rfl) rfl ?_
  show fhW fhYF Γ 161 [(8, .int s0), (0, .ref 3), (1, .ref v1), (2, .int v2), (3, .int v3), (4, .int v4), (5, .int v5), (7, .int v7)] [] (fcP (fcP σ 4 v5 v2) 4 (v5 + (1 : Int32)) v4)
  refine fhW.blk fhPF fhLL hΓ [(.aload_n 0, 0), (.getfield 16, 0), (.iload 5, 0), (.iconst 2, 2), (.iadd, 0), (.iload 7, 0)] (pc' := 171) (lv' := [(8, .int s0), (0, .ref 3), (1, .ref v1), (2, .int v2), (3, .int v3), (4, .int v4), (5, .int v5), (7, .int v7)]) (st' := [.int v7, .int (v5 + (2 : Int32)), .ref 4]) (σ' := (fcP (fcP σ 4 v5 v2) 4 (v5 + (1 : Int32)) v4)) (by decide +kernel) rfl rfl rfl ?_
  refine fhW.z_eq hΓ (tgt := 178) (show fhbk _ _ (.ifCond .eq (7)) _ = true by decide +kernel) (fun hc => ?_) (fun hc => ?_)
  · simp only [if_pos hc] at h
    refine fhW.blk fhPF fhLL hΓ [(.iload_n 3, 0)] (pc' := 179) (lv' := [(8, .int s0), (0, .ref 3), (1, .ref v1), (2, .int v2), (3, .int v3), (4, .int v4), (5, .int v5), (7, .int v7)]) (st' := [.int v3, .int (v5 + (2 : Int32)), .ref 4]) (σ' := (fcP (fcP σ 4 v5 v2) 4 (v5 + (1 : Int32)) v4)) (by decide +kernel) rfl rfl rfl ?_
    refine fhW.sub (lv' := [(0, .ref 3), (1, .ref v1), (2, .int v2), (3, .int v3), (4, .int v4), (5, .int v5), (8, .int s0)]) [1, 2, 3, 4, 5, 6, 0] rfl ?_
    exact L_X8_cutPiece_179 hE hΓ hd v1 v2 v3 v4 v5 s0 v3 (v5 + (2 : Int32)) hv1 (fcP (fcP σ 4 v5 v2) 4 (v5 + (1 : Int32)) v4) _ h hk
  · simp only [if_neg hc] at h
    refine fhW.blk fhPF fhLL hΓ [(.iconst 4, 4)] (pc' := 175) (lv' := [(8, .int s0), (0, .ref 3), (1, .ref v1), (2, .int v2), (3, .int v3), (4, .int v4), (5, .int v5), (7, .int v7)]) (st' := [.int (4 : Int32), .int (v5 + (2 : Int32)), .ref 4]) (σ' := (fcP (fcP σ 4 v5 v2) 4 (v5 + (1 : Int32)) v4)) (by decide +kernel) rfl rfl rfl ?_
    refine fhW.goto hΓ (off := 4) (tgt := 179) (by decide +kernel) ?_
    refine fhW.sub (lv' := [(0, .ref 3), (1, .ref v1), (2, .int v2), (3, .int v3), (4, .int v4), (5, .int v5), (8, .int s0)]) [1, 2, 3, 4, 5, 6, 0] rfl ?_
    exact L_X8_cutPiece_179 hE hΓ hd v1 v2 v3 v4 v5 s0 (4 : Int32) (v5 + (2 : Int32)) hv1 (fcP (fcP σ 4 v5 v2) 4 (v5 + (1 : Int32)) v4) _ h hk
set_option maxRecDepth 100000 in
set_option maxHeartbeats 4000000 in
theorem L_X8_cutPiece_118 {Γ : fhX} (hE : fhEok fhYF (fhEn Γ)) (hΓ : fhOk fhYF 8 cX8_cutPiece 9 (some .int) Γ) (hd : 7 ≤ fhD Γ) (v1 : Nat) (v2 : Int32) (v3 : Int32) (v4 : Int32) (v5 : Int32) (s0 : Int32) (hv1 : fhiC v1 = true) (σ : fhM) (o : Int32 × fhM) (h : f_X8_cutPiece_118 v1 v2 v3 v4 v5 s0 σ = some o) (hk : (fun o => fhRet Γ (some (.int o.1)) o.2) o) : fhW fhYF Γ 118 [(0, .ref 3), (1, .ref v1), (2, .int v2), (3, .int v3), (4, .int v4), (5, .int v5)] [.int s0] σ := by
  unfold f_X8_cutPiece_118 at h
  refine fhW.blk fhPF fhLL hΓ [(.istore 7, 0), (.iload_n 3, 0), (.iconst 1, 1)] (pc' := 122) (lv' := [(7, .int s0), (0, .ref 3), (1, .ref v1), (2, .int v2), (3, .int v3), (4, .int v4), (5, .int v5)]) (st' := [.int (1 : Int32), .int v3]) (σ' := σ) (by decide +kernel) rfl rfl rfl ?_
  refine fhW.i_ne hΓ (tgt := 135) (show fhbk _ _ (.if_icmp .ne (13)) _ = true by decide +kernel) (fun hc => ?_) (fun hc => ?_)
  · rw [if_neg hc] at h
    refine fhW.blk fhPF fhLL hΓ [(.iconst 0, 0)] (pc' := 136) (lv' := [(7, .int s0), (0, .ref 3), (1, .ref v1), (2, .int v2), (3, .int v3), (4, .int v4), (5, .int v5)]) (st' := [.int (0 : Int32)]) (σ' := σ) (by decide +kernel) rfl rfl rfl ?_
    refine fhW.sub (lv' := [(0, .ref 3), (1, .ref v1), (2, .int v2), (3, .int v3), (4, .int v4), (5, .int v5), (7, .int s0)]) [1, 2, 3, 4, 5, 6, 0] rfl ?_
    exact L_X8_cutPiece_136 hE hΓ hd v1 v2 v3 v4 v5 s0 (0 : Int32) hv1 σ _ h hk
  · rw [if_pos hc] at h
    refine fhW.blk fhPF fhLL hΓ [(.aload_n 1, 0), (.iload_n 2, 0), (.iload 4, 0)] (pc' := 129) (lv' := [(7, .int s0), (0, .ref 3), (1, .ref v1), (2, .int v2), (3, .int v3), (4, .int v4), (5, .int v5)]) (st' := [.int v4, .int v2, .ref v1]) (σ' := σ) (by decide +kernel) rfl rfl rfl ?_
    obtain ⟨q1, hb2, h⟩ := Option.bind_eq_some_iff.mp h
    refine fhW.calls hΓ msX8_packLetters ml_8_50 (av := [.ref v1, .int v2, .int v4]) (rest := []) (r := (some (.int q1))) (σ' := σ) (T_X8_packLetters (E := fhEn Γ) (d := fhD Γ - 1) hE (by omega) v1 v2 v4 hv1 σ hb2) (by omega) (by decide +kernel) rfl (Nat.le_of_ble_eq_true rfl) rfl ?_
    show fhW fhYF Γ 132 [(7, .int s0), (0, .ref 3), (1, .ref v1), (2, .int v2), (3, .int v3), (4, .int v4), (5, .int v5)] [.int q1] σ
    refine fhW.goto hΓ (off := 4) (tgt := 136) (by decide +kernel) ?_
    refine fhW.sub (lv' := [(0, .ref 3), (1, .ref v1), (2, .int v2), (3, .int v3), (4, .int v4), (5, .int v5), (7, .int s0)]) [1, 2, 3, 4, 5, 6, 0] rfl ?_
    exact L_X8_cutPiece_136 hE hΓ hd v1 v2 v3 v4 v5 s0 q1 hv1 σ _ h hk
set_option maxRecDepth 100000 in
set_option maxHeartbeats 4000000 in
theorem L_X8_cutPiece_117 {Γ : fhX} (hE : fhEok fhYF (fhEn Γ)) (hΓ : fhOk fhYF 8 cX8_cutPiece 9 (some .int) Γ) (hd : 7 ≤ fhD Γ) (v1 : Nat) (v2 : Int32) (v3 : Int32) (v4 : Int32) (v5 : Int32) (hv1 : fhiC v1 = true) (σ : fhM) (o : Int32 × fhM) (h : f_X8_cutPiece_117 v1 v2 v3 v4 v5 σ = some o) (hk : (fun o => fhRet Γ (some (.int o.1)) o.2) o) : fhW fhYF Γ 117 [(0, .ref 3), (1, .ref v1), (2, .int v2), (3, .int v3), (4, .int v4), (5, .int v5)] [] σ := by
  unfold f_X8_cutPiece_117 at h
  refine fhW.blk fhPF fhLL hΓ [(.iconst 0, 0)] (pc' := 118) (lv' := [(0, .ref 3), (1, .ref v1), (2, .int v2), (3, .int v3), (4, .int v4), (5, .int v5)]) (st' := [.int (0 : Int32)]) (σ' := σ) (by decide +kernel) rfl rfl rfl ?_
  refine fhW.sub (lv' := [(0, .ref 3), (1, .ref v1), (2, .int v2), (3, .int v3), (4, .int v4), (5, .int v5)]) [0, 1, 2, 3, 4, 5] rfl ?_
  exact L_X8_cutPiece_118 hE hΓ hd v1 v2 v3 v4 v5 (0 : Int32) hv1 σ _ h hk
set_option maxRecDepth 100000 in
set_option maxHeartbeats 4000000 in
theorem L_X8_cutPiece_94 {Γ : fhX} (hE : fhEok fhYF (fhEn Γ)) (hΓ : fhOk fhYF 8 cX8_cutPiece 9 (some .int) Γ) (hd : 7 ≤ fhD Γ) (v1 : Nat) (v2 : Int32) (v3 : Int32) (v4 : Int32) (v5 : Int32) (s0 : Int32) (hv1 : fhiC v1 = true) (σ : fhM) (o : Int32 × fhM) (h : f_X8_cutPiece_94 v1 v2 v3 v4 v5 s0 σ = some o) (hk : (fun o => fhRet Γ (some (.int o.1)) o.2) o) : fhW fhYF Γ 94 [(0, .ref 3), (1, .ref v1), (2, .int v2), (3, .int v3), (4, .int v4), (5, .int v5)] [.int s0] σ := by
  unfold f_X8_cutPiece_94 at h
  refine fhW.blk fhPF fhLL hΓ [(.istore 6, 0), (.aload_n 0, 0), (.getfield 30, 0)] (pc' := 100) (lv' := [(6, .int s0), (0, .ref 3), (1, .ref v1), (2, .int v2), (3, .int v3), (4, .int v4), (5, .int v5)]) (st' := [.int (σ.1 3 1)]) (σ' := σ) (by decide +kernel) rfl rfl rfl ?_
  refine fhW.z_le hΓ (tgt := 117) (show fhbk _ _ (.ifCond .le (17)) _ = true by decide +kernel) (fun hc => ?_) (fun hc => ?_)
  · rw [if_pos hc] at h
    refine fhW.sub (lv' := [(0, .ref 3), (1, .ref v1), (2, .int v2), (3, .int v3), (4, .int v4), (5, .int v5)]) [1, 2, 3, 4, 5, 6] rfl ?_
    exact L_X8_cutPiece_117 hE hΓ hd v1 v2 v3 v4 v5 hv1 σ _ h hk
  · rw [if_neg hc] at h
    refine fhW.blk fhPF fhLL hΓ [(.iload 6, 0)] (pc' := 105) (lv' := [(6, .int s0), (0, .ref 3), (1, .ref v1), (2, .int v2), (3, .int v3), (4, .int v4), (5, .int v5)]) (st' := [.int s0]) (σ' := σ) (by decide +kernel) rfl rfl rfl ?_
    refine fhW.z_eq hΓ (tgt := 117) (show fhbk _ _ (.ifCond .eq (12)) _ = true by decide +kernel) (fun hc => ?_) (fun hc => ?_)
    · rw [if_pos hc] at h
      refine fhW.sub (lv' := [(0, .ref 3), (1, .ref v1), (2, .int v2), (3, .int v3), (4, .int v4), (5, .int v5)]) [1, 2, 3, 4, 5, 6] rfl ?_
      exact L_X8_cutPiece_117 hE hΓ hd v1 v2 v3 v4 v5 hv1 σ _ h hk
    · rw [if_neg hc] at h
      refine fhW.blk fhPF fhLL hΓ [(.iload_n 3, 0), (.iconst 3, 3)] (pc' := 110) (lv' := [(6, .int s0), (0, .ref 3), (1, .ref v1), (2, .int v2), (3, .int v3), (4, .int v4), (5, .int v5)]) (st' := [.int (3 : Int32), .int v3]) (σ' := σ) (by decide +kernel) rfl rfl rfl ?_
      refine fhW.i_eq hΓ (tgt := 117) (show fhbk _ _ (.if_icmp .eq (7)) _ = true by decide +kernel) (fun hc => ?_) (fun hc => ?_)
      · rw [if_pos hc] at h
        refine fhW.sub (lv' := [(0, .ref 3), (1, .ref v1), (2, .int v2), (3, .int v3), (4, .int v4), (5, .int v5)]) [1, 2, 3, 4, 5, 6] rfl ?_
        exact L_X8_cutPiece_117 hE hΓ hd v1 v2 v3 v4 v5 hv1 σ _ h hk
      · rw [if_neg hc] at h
        refine fhW.blk fhPF fhLL hΓ [(.iconst 1, 1)] (pc' := 114) (lv' := [(6, .int s0), (0, .ref 3), (1, .ref v1), (2, .int v2), (3, .int v3), (4, .int v4), (5, .int v5)]) (st' := [.int (1 : Int32)]) (σ' := σ) (by decide +kernel) rfl rfl rfl ?_
        refine fhW.goto hΓ (off := 4) (tgt := 118) (by decide +kernel) ?_
        refine fhW.sub (lv' := [(0, .ref 3), (1, .ref v1), (2, .int v2), (3, .int v3), (4, .int v4), (5, .int v5)]) [1, 2, 3, 4, 5, 6] rfl ?_
        exact L_X8_cutPiece_118 hE hΓ hd v1 v2 v3 v4 v5 (1 : Int32) hv1 σ _ h hk
set_option maxRecDepth 100000 in
set_option maxHeartbeats 4000000 in
theorem L_X8_cutPiece_93 {Γ : fhX} (hE : fhEok fhYF (fhEn Γ)) (hΓ : fhOk fhYF 8 cX8_cutPiece 9 (some .int) Γ) (hd : 7 ≤ fhD Γ) (v1 : Nat) (v2 : Int32) (v3 : Int32) (v4 : Int32) (v5 : Int32) (hv1 : fhiC v1 = true) (σ : fhM) (o : Int32 × fhM) (h : f_X8_cutPiece_93 v1 v2 v3 v4 v5 σ = some o) (hk : (fun o => fhRet Γ (some (.int o.1)) o.2) o) : fhW fhYF Γ 93 [(0, .ref 3), (1, .ref v1), (2, .int v2), (3, .int v3), (4, .int v4), (5, .int v5)] [] σ := by
  unfold f_X8_cutPiece_93 at h
  refine fhW.blk fhPF fhLL hΓ [(.iconst 0, 0)] (pc' := 94) (lv' := [(0, .ref 3), (1, .ref v1), (2, .int v2), (3, .int v3), (4, .int v4), (5, .int v5)]) (st' := [.int (0 : Int32)]) (σ' := σ) (by decide +kernel) rfl rfl rfl ?_
  refine fhW.sub (lv' := [(0, .ref 3), (1, .ref v1), (2, .int v2), (3, .int v3), (4, .int v4), (5, .int v5)]) [0, 1, 2, 3, 4, 5] rfl ?_
  exact L_X8_cutPiece_94 hE hΓ hd v1 v2 v3 v4 v5 (0 : Int32) hv1 σ _ h hk
set_option maxRecDepth 100000 in
set_option maxHeartbeats 4000000 in
theorem L_X8_cutPiece_47 {Γ : fhX} (hE : fhEok fhYF (fhEn Γ)) (hΓ : fhOk fhYF 8 cX8_cutPiece 9 (some .int) Γ) (hd : 7 ≤ fhD Γ) (v1 : Nat) (v2 : Int32) (v3 : Int32) (v4 : Int32) (hv1 : fhiC v1 = true) (σ : fhM) (o : Int32 × fhM) (h : f_X8_cutPiece_47 v1 v2 v3 v4 σ = some o) (hk : (fun o => fhRet Γ (some (.int o.1)) o.2) o) : fhW fhYF Γ 47 [(0, .ref 3), (1, .ref v1), (2, .int v2), (3, .int v3), (4, .int v4)] [] σ := by
  unfold f_X8_cutPiece_47 at h
  refine fhW.blk fhPF fhLL hΓ [(.iconst 5, 5), (.aload_n 0, 0), (.getfield 30, 0), (.imul, 0), (.istore 5, 0), (.aload_n 0, 0), (.getfield 16, 0), (.iload 5, 0), (.iconst 5, 5), (.isub, 0), (.iconst 1, 1), (.iadd, 0)] (pc' := 65) (lv' := [(5, .int ((5 : Int32) * (σ.1 3 1))), (0, .ref 3), (1, .ref v1), (2, .int v2), (3, .int v3), (4, .int v4)]) (st' := [.int ((((5 : Int32) * (σ.1 3 1)) - (5 : Int32)) + (1 : Int32)), .ref 4]) (σ' := σ) (by decide +kernel) rfl rfl rfl ?_
  refine fhW.callv hΓ mvX2_get ml_8_36 (t := 4) (ci := 2) (av := [.int ((((5 : Int32) * (σ.1 3 1)) - (5 : Int32)) + (1 : Int32))]) (rest := []) (r := (some (.int (fcG σ 4 ((((5 : Int32) * (σ.1 3 1)) - (5 : Int32)) + (1 : Int32)))))) (σ' := σ) (T_X2_get (E := fhEn Γ) (d := fhD Γ - 1) hE (by omega) 4 ((((5 : Int32) * (σ.1 3 1)) - (5 : Int32)) + (1 : Int32)) rfl σ) (by omega) (by decide +kernel) rfl rfl rfl (Nat.le_of_ble_eq_true rfl) rfl ?_
  show fhW fhYF Γ 68 [(5, .int ((5 : Int32) * (σ.1 3 1))), (0, .ref 3), (1, .ref v1), (2, .int v2), (3, .int v3), (4, .int v4)] [.int (fcG σ 4 ((((5 : Int32) * (σ.1 3 1)) - (5 : Int32)) + (1 : Int32)))] σ
  refine fhW.blk fhPF fhLL hΓ [(.iload_n 2, 0)] (pc' := 69) (lv' := [(5, .int ((5 : Int32) * (σ.1 3 1))), (0, .ref 3), (1, .ref v1), (2, .int v2), (3, .int v3), (4, .int v4)]) (st' := [.int v2, .int (fcG σ 4 ((((5 : Int32) * (σ.1 3 1)) - (5 : Int32)) + (1 : Int32)))]) (σ' := σ) (by decide +kernel) rfl rfl rfl ?_
  refine fhW.i_ne hΓ (tgt := 93) (show fhbk _ _ (.if_icmp .ne (24)) _ = true by decide +kernel) (fun hc => ?_) (fun hc => ?_)
  · rw [if_neg hc] at h
    refine fhW.sub (lv' := [(0, .ref 3), (1, .ref v1), (2, .int v2), (3, .int v3), (4, .int v4), (5, .int ((5 : Int32) * (σ.1 3 1)))]) [1, 2, 3, 4, 5, 0] rfl ?_
    exact L_X8_cutPiece_93 hE hΓ hd v1 v2 v3 v4 ((5 : Int32) * (σ.1 3 1)) hv1 σ _ h hk
  · rw [if_pos hc] at h
    refine fhW.blk fhPF fhLL hΓ [(.aload_n 0, 0), (.getfield 16, 0), (.iload 5, 0), (.iconst 5, 5), (.isub, 0), (.iconst 2, 2), (.iadd, 0)] (pc' := 82) (lv' := [(5, .int ((5 : Int32) * (σ.1 3 1))), (0, .ref 3), (1, .ref v1), (2, .int v2), (3, .int v3), (4, .int v4)]) (st' := [.int ((((5 : Int32) * (σ.1 3 1)) - (5 : Int32)) + (2 : Int32)), .ref 4]) (σ' := σ) (by decide +kernel) rfl rfl rfl ?_
    refine fhW.callv hΓ mvX2_get ml_8_36 (t := 4) (ci := 2) (av := [.int ((((5 : Int32) * (σ.1 3 1)) - (5 : Int32)) + (2 : Int32))]) (rest := []) (r := (some (.int (fcG σ 4 ((((5 : Int32) * (σ.1 3 1)) - (5 : Int32)) + (2 : Int32)))))) (σ' := σ) (T_X2_get (E := fhEn Γ) (d := fhD Γ - 1) hE (by omega) 4 ((((5 : Int32) * (σ.1 3 1)) - (5 : Int32)) + (2 : Int32)) rfl σ) (by omega) (by decide +kernel) rfl rfl rfl (Nat.le_of_ble_eq_true rfl) rfl ?_
    show fhW fhYF Γ 85 [(5, .int ((5 : Int32) * (σ.1 3 1))), (0, .ref 3), (1, .ref v1), (2, .int v2), (3, .int v3), (4, .int v4)] [.int (fcG σ 4 ((((5 : Int32) * (σ.1 3 1)) - (5 : Int32)) + (2 : Int32)))] σ
    refine fhW.blk fhPF fhLL hΓ [(.iconst 3, 3)] (pc' := 86) (lv' := [(5, .int ((5 : Int32) * (σ.1 3 1))), (0, .ref 3), (1, .ref v1), (2, .int v2), (3, .int v3), (4, .int v4)]) (st' := [.int (3 : Int32), .int (fcG σ 4 ((((5 : Int32) * (σ.1 3 1)) - (5 : Int32)) + (2 : Int32)))]) (σ' := σ) (by decide +kernel) rfl rfl rfl ?_
    refine fhW.i_eq hΓ (tgt := 93) (show fhbk _ _ (.if_icmp .eq (7)) _ = true by decide +kernel) (fun hc => ?_) (fun hc => ?_)
    · rw [if_pos hc] at h
      refine fhW.sub (lv' := [(0, .ref 3), (1, .ref v1), (2, .int v2), (3, .int v3), (4, .int v4), (5, .int ((5 : Int32) * (σ.1 3 1)))]) [1, 2, 3, 4, 5, 0] rfl ?_
      exact L_X8_cutPiece_93 hE hΓ hd v1 v2 v3 v4 ((5 : Int32) * (σ.1 3 1)) hv1 σ _ h hk
    · rw [if_neg hc] at h
      refine fhW.blk fhPF fhLL hΓ [(.iconst 1, 1)] (pc' := 90) (lv' := [(5, .int ((5 : Int32) * (σ.1 3 1))), (0, .ref 3), (1, .ref v1), (2, .int v2), (3, .int v3), (4, .int v4)]) (st' := [.int (1 : Int32)]) (σ' := σ) (by decide +kernel) rfl rfl rfl ?_
      refine fhW.goto hΓ (off := 4) (tgt := 94) (by decide +kernel) ?_
      refine fhW.sub (lv' := [(0, .ref 3), (1, .ref v1), (2, .int v2), (3, .int v3), (4, .int v4), (5, .int ((5 : Int32) * (σ.1 3 1)))]) [1, 2, 3, 4, 5, 0] rfl ?_
      exact L_X8_cutPiece_94 hE hΓ hd v1 v2 v3 v4 ((5 : Int32) * (σ.1 3 1)) (1 : Int32) hv1 σ _ h hk
set_option maxRecDepth 100000 in
set_option maxHeartbeats 4000000 in
theorem L_X8_cutPiece_14 {Γ : fhX} (hE : fhEok fhYF (fhEn Γ)) (hΓ : fhOk fhYF 8 cX8_cutPiece 9 (some .int) Γ) (hd : 7 ≤ fhD Γ) (v1 : Nat) (v2 : Int32) (v3 : Int32) (v4 : Int32) (hv1 : fhiC v1 = true) (σ : fhM) (o : (Int32) ⊕ (Int32 × fhM)) (h : f_X8_cutPiece_14 v1 v2 v3 v4 σ = some o) (hk : (fhK (fun x => fhW fhYF Γ 14 [(0, .ref 3), (1, .ref v1), (2, .int v2), (3, .int v3), (4, .int x)] [] σ) (fun o => fhRet Γ (some (.int o.1)) o.2)) o) : fhW fhYF Γ 14 [(0, .ref 3), (1, .ref v1), (2, .int v2), (3, .int v3), (4, .int v4)] [] σ := by
  unfold f_X8_cutPiece_14 at h
  refine fhW.blk fhPF fhLL hΓ [(.iload 4, 0), (.aload_n 0, 0), (.getfield 20, 0)] (pc' := 20) (lv' := [(0, .ref 3), (1, .ref v1), (2, .int v2), (3, .int v3), (4, .int v4)]) (st' := [.int (σ.1 3 3), .int v4]) (σ' := σ) (by decide +kernel) rfl rfl rfl ?_
  refine fhW.i_ge hΓ (tgt := 47) (show fhbk _ _ (.if_icmp .ge (27)) _ = true by decide +kernel) (fun hc => ?_) (fun hc => ?_)
  · rw [if_pos hc] at h
    refine fhW.sub (lv' := [(0, .ref 3), (1, .ref v1), (2, .int v2), (3, .int v3), (4, .int v4)]) [0, 1, 2, 3, 4] rfl ?_
    obtain ⟨z1, hz, e1⟩ := Option.map_eq_some_iff.mp h
    clear h
    subst e1
    have h := hz
    have hk : (fun o => fhRet Γ (some (.int o.1)) o.2) z1 := hk
    exact L_X8_cutPiece_47 hE hΓ hd v1 v2 v3 v4 hv1 σ _ h hk
  · rw [if_neg hc] at h
    refine fhW.blk fhPF fhLL hΓ [(.iload_n 3, 0), (.iconst 3, 3)] (pc' := 25) (lv' := [(0, .ref 3), (1, .ref v1), (2, .int v2), (3, .int v3), (4, .int v4)]) (st' := [.int (3 : Int32), .int v3]) (σ' := σ) (by decide +kernel) rfl rfl rfl ?_
    refine fhW.i_eq hΓ (tgt := 47) (show fhbk _ _ (.if_icmp .eq (22)) _ = true by decide +kernel) (fun hc => ?_) (fun hc => ?_)
    · rw [if_pos hc] at h
      refine fhW.sub (lv' := [(0, .ref 3), (1, .ref v1), (2, .int v2), (3, .int v3), (4, .int v4)]) [0, 1, 2, 3, 4] rfl ?_
      obtain ⟨z2, hz, e2⟩ := Option.map_eq_some_iff.mp h
      clear h
      subst e2
      have h := hz
      have hk : (fun o => fhRet Γ (some (.int o.1)) o.2) z2 := hk
      exact L_X8_cutPiece_47 hE hΓ hd v1 v2 v3 v4 hv1 σ _ h hk
    · rw [if_neg hc] at h
      refine fhW.blk fhPF fhLL hΓ [(.aload_n 1, 0), (.iload 4, 0)] (pc' := 31) (lv' := [(0, .ref 3), (1, .ref v1), (2, .int v2), (3, .int v3), (4, .int v4)]) (st' := [.int v4, .ref v1]) (σ' := σ) (by decide +kernel) rfl rfl rfl ?_
      refine fhW.callv hΓ mvX2_get ml_8_36 (t := v1) (ci := 2) (av := [.int v4]) (rest := []) (r := (some (.int (fcG σ v1 v4)))) (σ' := σ) (T_X2_get (E := fhEn Γ) (d := fhD Γ - 1) hE (by omega) v1 v4 hv1 σ) (by omega) (by decide +kernel) rfl (fhiC_g hv1) rfl (Nat.le_of_ble_eq_true rfl) rfl ?_
      show fhW fhYF Γ 34 [(0, .ref 3), (1, .ref v1), (2, .int v2), (3, .int v3), (4, .int v4)] [.int (fcG σ v1 v4)] σ
      refine fhW.calls hΓ msX8_sortOf ml_8_47 (av := [.int (fcG σ v1 v4)]) (rest := []) (r := (some (.int (f_X8_sortOf (fcG σ v1 v4) σ)))) (σ' := σ) (T_X8_sortOf (E := fhEn Γ) (d := fhD Γ - 1) hE (by omega) (fcG σ v1 v4) σ) (by omega) (by decide +kernel) rfl (Nat.le_of_ble_eq_true rfl) rfl ?_
      show fhW fhYF Γ 37 [(0, .ref 3), (1, .ref v1), (2, .int v2), (3, .int v3), (4, .int v4)] [.int (f_X8_sortOf (fcG σ v1 v4) σ)] σ
      refine fhW.blk fhPF fhLL hΓ [(.iload_n 3, 0)] (pc' := 38) (lv' := [(0, .ref 3), (1, .ref v1), (2, .int v2), (3, .int v3), (4, .int v4)]) (st' := [.int v3, .int (f_X8_sortOf (fcG σ v1 v4) σ)]) (σ' := σ) (by decide +kernel) rfl rfl rfl ?_
      refine fhW.i_ne hΓ (tgt := 47) (show fhbk _ _ (.if_icmp .ne (9)) _ = true by decide +kernel) (fun hc => ?_) (fun hc => ?_)
      · rw [if_neg hc] at h
        refine fhW.sub (lv' := [(0, .ref 3), (1, .ref v1), (2, .int v2), (3, .int v3), (4, .int v4)]) [0, 1, 2, 3, 4] rfl ?_
        obtain ⟨z3, hz, e3⟩ := Option.map_eq_some_iff.mp h
        clear h
        subst e3
        have h := hz
        have hk : (fun o => fhRet Γ (some (.int o.1)) o.2) z3 := hk
        exact L_X8_cutPiece_47 hE hΓ hd v1 v2 v3 v4 hv1 σ _ h hk
      · rw [if_pos hc] at h
        refine fhW.blk fhPF fhLL hΓ [(.iinc 4 1, 1)] (pc' := 44) (lv' := [(4, .int (v4 + (1 : Int32))), (0, .ref 3), (1, .ref v1), (2, .int v2), (3, .int v3)]) (st' := []) (σ' := σ) (by decide +kernel) rfl rfl rfl ?_
        refine fhW.goto hΓ (off := (-30)) (tgt := 14) (by decide +kernel) ?_
        refine fhW.sub (lv' := [(0, .ref 3), (1, .ref v1), (2, .int v2), (3, .int v3), (4, .int (v4 + (1 : Int32)))]) [1, 2, 3, 4, 0] rfl ?_
        have e9 := Option.some.inj h
        subst e9
        exact hk
set_option maxRecDepth 100000 in
set_option maxHeartbeats 4000000 in
theorem L_X8_cutPiece_E {Γ : fhX} (hE : fhEok fhYF (fhEn Γ)) (hΓ : fhOk fhYF 8 cX8_cutPiece 9 (some .int) Γ) (hd : 7 ≤ fhD Γ) (v1 : Nat) (v2 : Int32) (hv1 : fhiC v1 = true) (σ : fhM) (o : Int32 × fhM) (h : f_X8_cutPiece v1 v2 σ = some o) (hk : (fun o => fhRet Γ (some (.int o.1)) o.2) o) : fhW fhYF Γ 0 [(0, .ref 3), (1, .ref v1), (2, .int v2)] [] σ := by
  unfold f_X8_cutPiece at h
  refine fhW.blk fhPF fhLL hΓ [(.aload_n 1, 0), (.iload_n 2, 0)] (pc' := 2) (lv' := [(0, .ref 3), (1, .ref v1), (2, .int v2)]) (st' := [.int v2, .ref v1]) (σ' := σ) (by decide +kernel) rfl rfl rfl ?_
  refine fhW.callv hΓ mvX2_get ml_8_36 (t := v1) (ci := 2) (av := [.int v2]) (rest := []) (r := (some (.int (fcG σ v1 v2)))) (σ' := σ) (T_X2_get (E := fhEn Γ) (d := fhD Γ - 1) hE (by omega) v1 v2 hv1 σ) (by omega) (by decide +kernel) rfl (fhiC_g hv1) rfl (Nat.le_of_ble_eq_true rfl) rfl ?_
  show fhW fhYF Γ 5 [(0, .ref 3), (1, .ref v1), (2, .int v2)] [.int (fcG σ v1 v2)] σ
  refine fhW.calls hΓ msX8_sortOf ml_8_47 (av := [.int (fcG σ v1 v2)]) (rest := []) (r := (some (.int (f_X8_sortOf (fcG σ v1 v2) σ)))) (σ' := σ) (T_X8_sortOf (E := fhEn Γ) (d := fhD Γ - 1) hE (by omega) (fcG σ v1 v2) σ) (by omega) (by decide +kernel) rfl (Nat.le_of_ble_eq_true rfl) rfl ?_
  show fhW fhYF Γ 8 [(0, .ref 3), (1, .ref v1), (2, .int v2)] [.int (f_X8_sortOf (fcG σ v1 v2) σ)] σ
  refine fhW.blk fhPF fhLL hΓ [(.istore_n 3, 0), (.iload_n 2, 0), (.iconst 1, 1), (.iadd, 0), (.istore 4, 0)] (pc' := 14) (lv' := [(4, .int (v2 + (1 : Int32))), (3, .int (f_X8_sortOf (fcG σ v1 v2) σ)), (0, .ref 3), (1, .ref v1), (2, .int v2)]) (st' := []) (σ' := σ) (by decide +kernel) rfl rfl rfl ?_
  refine fhW.sub (lv' := [(0, .ref 3), (1, .ref v1), (2, .int v2), (3, .int (f_X8_sortOf (fcG σ v1 v2) σ)), (4, .int (v2 + (1 : Int32)))]) [2, 3, 4, 1, 0] rfl ?_
  exact fhlp_ok (W := (fun x => fhW fhYF Γ 14 [(0, .ref 3), (1, .ref v1), (2, .int v2), (3, .int (f_X8_sortOf (fcG σ v1 v2) σ)), (4, .int x)] [] σ)) (B := (fun o => fhRet Γ (some (.int o.1)) o.2)) (fun x o h hk => L_X8_cutPiece_14 hE hΓ hd v1 v2 (f_X8_sortOf (fcG σ v1 v2) σ) x hv1 σ o h hk) (v2 + (1 : Int32)) _ h hk
set_option maxRecDepth 100000 in
theorem T_X8_cutPiece {E : fhE} {d : Nat} (hE : fhEok fhYF E) (hd : 7 ≤ d) (v1 : Nat) (v2 : Int32) (hv1 : fhiC v1 = true) (σ : fhM) {o : Int32 × fhM} (h : f_X8_cutPiece v1 v2 σ = some o) : fhC fhYF E d miX8_cutPiece [.ref 3, .ref v1, .int v2] σ (some (.int o.1)) o.2 := by
  refine fhC.of (y := yX8_cutPiece) (cc := cX8_cutPiece) (nL := 9) (ret := (some .int)) 8 rfl (by decide +kernel) (Nat.le_of_ble_eq_true rfl) ?_
  intro Γ hΓ hR hD hEn
  subst hD; subst hEn
  exact L_X8_cutPiece_E hE hΓ hd v1 v2 hv1 σ _ h hR

