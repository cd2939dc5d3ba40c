set_option maxRecDepth 100000 in
set_option maxHeartbeats 4000000 in
theorem L_X1_bestTelling_54 {Γ : fhX} (hE : fhEok fhYF (fhEn Γ)) (hΓ : fhOk fhYF 1 cX1_bestTelling 6 (some .int) Γ) (hd : 3 ≤ fhD Γ) (v1 : Int32) (v2 : Int32) (v3 : Int32) (v4 : Int32)  (σ : fhM) (o : (Int32 × Int32 × Int32) ⊕ ((Int32 × Int32 × Int32) ⊕ (Int32))) (h : f_X1_bestTelling_54 v1 v2 v3 v4 σ = some o) (hk : (fhK (fun x => fhW fhYF Γ 17 [(0, .ref 76), (1, .int x.1), (2, .int x.2.1), (3, .int v3), (4, .int x.2.2)] [] σ) (fhK (fun x => fhW fhYF Γ 8 [(0, .ref 76), (1, .int x.1), (2, .int x.2.1), (3, .int x.2.2)] [] σ) (fun o => fhRet Γ (some (.int o)) σ))) o) : fhW fhYF Γ 54 [(0, .ref 76), (1, .int v1), (2, .int v2), (3, .int v3), (4, .int v4)] [] σ := by
  unfold f_X1_bestTelling_54 at h
  refine fhW.blk fhPF fhLL hΓ [(.iinc 4 1, 1)] (pc' := 57) (lv' := [(4, .int (v4 + (1 : Int32))), (0, .ref 76), (1, .int v1), (2, .int v2), (3, .int v3)]) (st' := []) (σ' := σ) (by decide +kernel) rfl rfl rfl ?_
  refine fhW.goto hΓ (off := (-40)) (tgt := 17) (by decide +kernel) ?_
  refine fhW.sub (lv' := [(0, .ref 76), (1, .int v1), (2, .int v2), (3, .int v3), (4, .int (v4 + (1 : Int32)))]) [1, 2, 3, 4, 0] rfl ?_
  have e9 := Option.some.inj h
  subst e9
  exact hk
set_option maxRecDepth 100000 in
set_option maxHeartbeats 4000000 in
theorem L_X1_bestTelling_17 {Γ : fhX} (hE : fhEok fhYF (fhEn Γ)) (hΓ : fhOk fhYF 1 cX1_bestTelling 6 (some .int) Γ) (hd : 3 ≤ fhD Γ) (v1 : Int32) (v2 : Int32) (v3 : Int32) (v4 : Int32)  (σ : fhM) (o : (Int32 × Int32 × Int32) ⊕ ((Int32 × Int32 × Int32) ⊕ (Int32))) (h : f_X1_bestTelling_17 v1 v2 v3 v4 σ = some o) (hk : (fhK (fun x => fhW fhYF Γ 17 [(0, .ref 76), (1, .int x.1), (2, .int x.2.1), (3, .int v3), (4, .int x.2.2)] [] σ) (fhK (fun x => fhW fhYF Γ 8 [(0, .ref 76), (1, .int x.1), (2, .int x.2.1), (3, .int x.2.2)] [] σ) (fun o => fhRet Γ (some (.int o)) σ))) o) : fhW fhYF Γ 17 [(0, .ref 76), (1, .int v1), (2, .int v2), (3, .int v3), (4, .int v4)] [] σ := by
  unfold f_X1_bestTelling_17 at h
  refine fhW.blk fhPF fhLL hΓ [(.iload 4, 0), (.aload_n 0, 0), (.getfield 41, 0), (.getfield 92, 0)] (pc' := 26) (lv' := [(0, .ref 76), (1, .int v1), (2, .int v2), (3, .int v3), (4, .int v4)]) (st' := [.int (σ.1 39 9), .int v4]) (σ' := σ) (by decide +kernel) rfl rfl rfl ?_
  refine fhW.i_ge hΓ (tgt := 60) (show fhbk _ _ (.if_icmp .ge (34)) _ = true by decide +kernel) (fun hc => ?_) (fun hc => ?_)
  · rw [if_pos hc] at h
    refine fhW.blk fhPF fhLL hΓ [(.iinc 3 1, 1)] (pc' := 63) (lv' := [(3, .int (v3 + (1 : Int32))), (0, .ref 76), (1, .int v1), (2, .int v2), (4, .int v4)]) (st' := []) (σ' := σ) (by decide +kernel) rfl rfl rfl ?_
    refine fhW.goto hΓ (off := (-55)) (tgt := 8) (by decide +kernel) ?_
    refine fhW.sub (lv' := [(0, .ref 76), (1, .int v1), (2, .int v2), (3, .int (v3 + (1 : Int32)))]) [1, 2, 3, 0] rfl ?_
    have e9 := Option.some.inj h
    subst e9
    exact hk
  · rw [if_neg hc] at h
    refine fhW.blk fhPF fhLL hΓ [(.aload_n 0, 0), (.iload_n 3, 0), (.iload 4, 0)] (pc' := 33) (lv' := [(0, .ref 76), (1, .int v1), (2, .int v2), (3, .int v3), (4, .int v4)]) (st' := [.int v4, .int v3, .ref 76]) (σ' := σ) (by decide +kernel) rfl rfl rfl ?_
    obtain ⟨q1, hb1, h⟩ := Option.bind_eq_some_iff.mp h
    refine fhW.callv hΓ mvX1_mostLeft ml_1_117 (t := 76) (ci := 1) (av := [.int v3, .int v4]) (rest := []) (r := (some (.int q1))) (σ' := σ) (T_X1_mostLeft (E := fhEn Γ) (d := fhD Γ - 1) hE (by omega) v3 v4 σ hb1) (by omega) (by decide +kernel) rfl rfl rfl (Nat.le_of_ble_eq_true rfl) rfl ?_
    show fhW fhYF Γ 36 [(0, .ref 76), (1, .int v1), (2, .int v2), (3, .int v3), (4, .int v4)] [.int q1] σ
    refine fhW.blk fhPF fhLL hΓ [(.istore 5, 0), (.iload 5, 0), (.iload_n 2, 0)] (pc' := 41) (lv' := [(5, .int q1), (0, .ref 76), (1, .int v1), (2, .int v2), (3, .int v3), (4, .int v4)]) (st' := [.int v2, .int q1]) (σ' := σ) (by decide +kernel) rfl rfl rfl ?_
    refine fhW.i_ge hΓ (tgt := 54) (show fhbk _ _ (.if_icmp .ge (13)) _ = true by decide +kernel) (fun hc => ?_) (fun hc => ?_)
    · simp only [if_pos hc] at h
      refine fhW.sub (lv' := [(0, .ref 76), (1, .int v1), (2, .int v2), (3, .int v3), (4, .int v4)]) [1, 2, 3, 4, 5] rfl ?_
      exact L_X1_bestTelling_54 hE hΓ hd v1 v2 v3 v4 σ _ h hk
    · simp only [if_neg hc] at h
      refine fhW.blk fhPF fhLL hΓ [(.iload_n 3, 0), (.iconst 5, 5), (.imul, 0), (.iload 4, 0), (.iadd, 0), (.istore_n 1, 0), (.iload 5, 0), (.istore_n 2, 0)] (pc' := 54) (lv' := [(2, .int q1), (1, .int ((v3 * (5 : Int32)) + v4)), (5, .int q1), (0, .ref 76), (3, .int v3), (4, .int v4)]) (st' := []) (σ' := σ) (by decide +kernel) rfl rfl rfl ?_
      refine fhW.sub (lv' := [(0, .ref 76), (1, .int ((v3 * (5 : Int32)) + v4)), (2, .int q1), (3, .int v3), (4, .int v4)]) [3, 1, 0, 4, 5] rfl ?_
      exact L_X1_bestTelling_54 hE hΓ hd ((v3 * (5 : Int32)) + v4) q1 v3 v4 σ _ h hk
set_option maxRecDepth 100000 in
set_option maxHeartbeats 4000000 in
theorem L_X1_bestTelling_8 {Γ : fhX} (hE : fhEok fhYF (fhEn Γ)) (hΓ : fhOk fhYF 1 cX1_bestTelling 6 (some .int) Γ) (hd : 3 ≤ fhD Γ) (v1 : Int32) (v2 : Int32) (v3 : Int32)  (σ : fhM) (o : (Int32 × Int32 × Int32) ⊕ (Int32)) (h : f_X1_bestTelling_8 v1 v2 v3 σ = some o) (hk : (fhK (fun x => fhW fhYF Γ 8 [(0, .ref 76), (1, .int x.1), (2, .int x.2.1), (3, .int x.2.2)] [] σ) (fun o => fhRet Γ (some (.int o)) σ)) o) : fhW fhYF Γ 8 [(0, .ref 76), (1, .int v1), (2, .int v2), (3, .int v3)] [] σ := by
  unfold f_X1_bestTelling_8 at h
  refine fhW.blk fhPF fhLL hΓ [(.iload_n 3, 0), (.bipush 16, 16)] (pc' := 11) (lv' := [(0, .ref 76), (1, .int v1), (2, .int v2), (3, .int v3)]) (st' := [.int (16 : Int32), .int v3]) (σ' := σ) (by decide +kernel) rfl rfl rfl ?_
  refine fhW.i_ge hΓ (tgt := 66) (show fhbk _ _ (.if_icmp .ge (55)) _ = true by decide +kernel) (fun hc => ?_) (fun hc => ?_)
  · rw [if_pos hc] at h
    refine fhW.blk fhPF fhLL hΓ [(.iload_n 1, 0)] (pc' := 67) (lv' := [(0, .ref 76), (1, .int v1), (2, .int v2), (3, .int v3)]) (st' := [.int v1]) (σ' := σ) (by decide +kernel) rfl rfl rfl ?_
    have e9 := Option.some.inj h
    subst e9
    exact fhW.iret hΓ (by decide +kernel) hk
  · rw [if_neg hc] at h
    refine fhW.blk fhPF fhLL hΓ [(.iconst 0, 0), (.istore 4, 0)] (pc' := 17) (lv' := [(4, .int (0 : Int32)), (0, .ref 76), (1, .int v1), (2, .int v2), (3, .int v3)]) (st' := []) (σ' := σ) (by decide +kernel) rfl rfl rfl ?_
    refine fhW.sub (lv' := [(0, .ref 76), (1, .int v1), (2, .int v2), (3, .int v3), (4, .int (0 : Int32))]) [1, 2, 3, 4, 0] rfl ?_
    exact fhlp_ok (W := (fun x => fhW fhYF Γ 17 [(0, .ref 76), (1, .int x.1), (2, .int x.2.1), (3, .int v3), (4, .int x.2.2)] [] σ)) (B := (fhK (fun x => fhW fhYF Γ 8 [(0, .ref 76), (1, .int x.1), (2, .int x.2.1), (3, .int x.2.2)] [] σ) (fun o => fhRet Γ (some (.int o)) σ))) (fun x o h hk => L_X1_bestTelling_17 hE hΓ hd x.1 x.2.1 v3 x.2.2 σ o h hk) (v1, v2, (0 : Int32)) _ h hk
set_option maxRecDepth 100000 in
set_option maxHeartbeats 4000000 in
theorem L_X1_bestTelling_E {Γ : fhX} (hE : fhEok fhYF (fhEn Γ)) (hΓ : fhOk fhYF 1 cX1_bestTelling 6 (some .int) Γ) (hd : 3 ≤ fhD Γ)   (σ : fhM) (o : Int32) (h : f_X1_bestTelling σ = some o) (hk : (fun o => fhRet Γ (some (.int o)) σ) o) : fhW fhYF Γ 0 [(0, .ref 76)] [] σ := by
  unfold f_X1_bestTelling at h
  refine fhW.blk fhPF fhLL hΓ [(.iconst 0, 0), (.istore_n 1, 0), (.sipush 1025, 1025), (.istore_n 2, 0), (.iconst 0, 0), (.istore_n 3, 0)] (pc' := 8) (lv' := [(3, .int (0 : Int32)), (2, .int (1025 : Int32)), (1, .int (0 : Int32)), (0, .ref 76)]) (st' := []) (σ' := σ) (by decide +kernel) rfl rfl rfl ?_
  refine fhW.sub (lv' := [(0, .ref 76), (1, .int (0 : Int32)), (2, .int (1025 : Int32)), (3, .int (0 : Int32))]) [3, 2, 1, 0] rfl ?_
  exact fhlp_ok (W := (fun x => fhW fhYF Γ 8 [(0, .ref 76), (1, .int x.1), (2, .int x.2.1), (3, .int x.2.2)] [] σ)) (B := (fun o => fhRet Γ (some (.int o)) σ)) (fun x o h hk => L_X1_bestTelling_8 hE hΓ hd x.1 x.2.1 x.2.2 σ o h hk) ((0 : Int32), (1025 : Int32), (0 : Int32)) _ h hk
set_option maxRecDepth 100000 in
theorem T_X1_bestTelling {E : fhE} {d : Nat} (hE : fhEok fhYF E) (hd : 3 ≤ d)   (σ : fhM) {o : Int32} (h : f_X1_bestTelling σ = some o) : fhC fhYF E d miX1_bestTelling [.ref 76] σ (some (.int o)) σ := by
  refine fhC.of (y := yX1_bestTelling) (cc := cX1_bestTelling) (nL := 6) (ret := (some .int)) 1 rfl (by decide +kernel) (Nat.le_of_ble_eq_true rfl) ?_
  intro Γ hΓ hR hD hEn
  subst hD; subst hEn
  exact L_X1_bestTelling_E hE hΓ hd   σ _ h hR
set_option maxRecDepth 100000 in
set_option maxHeartbeats 4000000 in
theorem L_X11_tells_E {Γ : fhX} (hE : fhEok fhYF (fhEn Γ)) (hΓ : fhOk fhYF 11 cX11_tells 3 (some .int) Γ) (hd : 6 ≤ fhD Γ) (v1 : Int32)  (σ : fhM) (o : Int32 × fhM) (h : f_X11_tells v1 σ = some o) (hk : (fun o => fhRet Γ (some (.int o.1)) o.2) o) : fhW fhYF Γ 0 [(0, .ref 0), (1, .int v1)] [] σ := by
  unfold f_X11_tells at h
  refine fhW.blk fhPF fhLL hΓ [(.aload_n 0, 0), (.getfield 63, 0), (.getfield 177, 0)] (pc' := 7) (lv' := [(0, .ref 0), (1, .int v1)]) (st' := [.int (σ.1 39 9)]) (σ' := σ) (by decide +kernel) rfl rfl rfl ?_
  refine fhW.z_eq hΓ (tgt := 19) (show fhbk _ _ (.ifCond .eq (12)) _ = true by decide +kernel) (fun hc => ?_) (fun hc => ?_)
  · rw [if_pos hc] at h
    refine fhW.blk fhPF fhLL hΓ [(.iconst (-1), -1)] (pc' := 20) (lv' := [(0, .ref 0), (1, .int v1)]) (st' := [.int (-1 : Int32)]) (σ' := σ) (by decide +kernel) rfl rfl rfl ?_
    have e9 := Option.some.inj h
    subst e9
    exact fhW.iret hΓ (by decide +kernel) hk
  · rw [if_neg hc] at h
    refine fhW.blk fhPF fhLL hΓ [(.iload_n 1, 0)] (pc' := 11) (lv' := [(0, .ref 0), (1, .int v1)]) (st' := [.int v1]) (σ' := σ) (by decide +kernel) rfl rfl rfl ?_
    refine fhW.z_lt hΓ (tgt := 19) (show fhbk _ _ (.ifCond .lt (8)) _ = true by decide +kernel) (fun hc => ?_) (fun hc => ?_)
    · rw [if_pos hc] at h
      refine fhW.blk fhPF fhLL hΓ [(.iconst (-1), -1)] (pc' := 20) (lv' := [(0, .ref 0), (1, .int v1)]) (st' := [.int (-1 : Int32)]) (σ' := σ) (by decide +kernel) rfl rfl rfl ?_
      have e9 := Option.some.inj h
      subst e9
      exact fhW.iret hΓ (by decide +kernel) hk
    · rw [if_neg hc] at h
      refine fhW.blk fhPF fhLL hΓ [(.iload_n 1, 0), (.iconst 2, 2)] (pc' := 16) (lv' := [(0, .ref 0), (1, .int v1)]) (st' := [.int (2 : Int32), .int v1]) (σ' := σ) (by decide +kernel) rfl rfl rfl ?_
      refine fhW.i_le hΓ (tgt := 21) (show fhbk _ _ (.if_icmp .le (5)) _ = true by decide +kernel) (fun hc => ?_) (fun hc => ?_)
      · rw [if_pos hc] at h
        refine fhW.blk fhPF fhLL hΓ [(.aload_n 0, 0), (.getfield 79, 0)] (pc' := 25) (lv' := [(0, .ref 0), (1, .int v1)]) (st' := [.ref 76]) (σ' := σ) (by decide +kernel) rfl rfl rfl ?_
        obtain ⟨q1, hb1, h⟩ := Option.bind_eq_some_iff.mp h
        refine fhW.callv hΓ mvX1_findFitting ml_11_311 (t := 76) (ci := 1) (av := []) (rest := []) (r := none) (σ' := q1) (T_X1_findFitting (E := fhEn Γ) (d := fhD Γ - 1) hE (by omega) σ hb1) (by omega) (by decide +kernel) rfl rfl rfl (Nat.le_of_ble_eq_true rfl) rfl ?_
        show fhW fhYF Γ 28 [(0, .ref 0), (1, .int v1)] [] q1
        refine fhW.blk fhPF fhLL hΓ [(.aload_n 0, 0), (.getfield 79, 0), (.getfield 314, 0)] (pc' := 35) (lv' := [(0, .ref 0), (1, .int v1)]) (st' := [.int (q1.1 76 12)]) (σ' := q1) (by decide +kernel) rfl rfl rfl ?_
        refine fhW.z_ne hΓ (tgt := 40) (show fhbk _ _ (.ifCond .ne (5)) _ = true by decide +kernel) (fun hc => ?_) (fun hc => ?_)
        · rw [if_neg hc] at h
          refine fhW.blk fhPF fhLL hΓ [(.aload_n 0, 0), (.getfield 79, 0)] (pc' := 44) (lv' := [(0, .ref 0), (1, .int v1)]) (st' := [.ref 76]) (σ' := q1) (by decide +kernel) rfl rfl rfl ?_
          obtain ⟨q2, hb2, h⟩ := Option.bind_eq_some_iff.mp h
          refine fhW.callv hΓ mvX1_bestTelling ml_11_323 (t := 76) (ci := 1) (av := []) (rest := []) (r := (some (.int q2))) (σ' := q1) (T_X1_bestTelling (E := fhEn Γ) (d := fhD Γ - 1) hE (by omega) q1 hb2) (by omega) (by decide +kernel) rfl rfl rfl (Nat.le_of_ble_eq_true rfl) rfl ?_
          show fhW fhYF Γ 47 [(0, .ref 0), (1, .int v1)] [.int q2] q1
          refine fhW.blk fhPF fhLL hΓ [(.istore_n 2, 0), (.iload_n 1, 0)] (pc' := 49) (lv' := [(2, .int q2), (0, .ref 0), (1, .int v1)]) (st' := [.int v1]) (σ' := q1) (by decide +kernel) rfl rfl rfl ?_
          refine fhW.lsw hΓ (dflt := 35) (ps := #[(0, 27), (1, 31)]) (len := 27) (td := 84) [(0, 76), (1, 80)] (by decide +kernel) ?_
          refine fhsw_c (fun hc => ?_) (fun hc => ?_)
          · rw [if_pos hc] at h
            refine fhW.blk fhPF fhLL hΓ [(.iload_n 2, 0), (.iconst 5, 5), (.idiv, 0)] (pc' := 79) (lv' := [(2, .int q2), (0, .ref 0), (1, .int v1)]) (st' := [.int (q2 / (5 : Int32))]) (σ' := q1) (by decide +kernel) rfl rfl rfl ?_
            have e9 := Option.some.inj h
            subst e9
            exact fhW.iret hΓ (by decide +kernel) hk
          rw [if_neg hc] at h
          refine fhsw_c (fun hc => ?_) (fun hc => ?_)
          · rw [if_pos hc] at h
            refine fhW.blk fhPF fhLL hΓ [(.iload_n 2, 0), (.iconst 5, 5), (.irem, 0)] (pc' := 83) (lv' := [(2, .int q2), (0, .ref 0), (1, .int v1)]) (st' := [.int (fhrem q2 (5 : Int32))]) (σ' := q1) (by decide +kernel) rfl rfl rfl ?_
            have e9 := Option.some.inj h
            subst e9
            exact fhW.iret hΓ (by decide +kernel) hk
          rw [if_neg hc] at h
          refine fhsw_n ?_
          refine fhW.blk fhPF fhLL hΓ [(.aload_n 0, 0), (.getfield 79, 0), (.iload_n 2, 0), (.iconst 5, 5), (.idiv, 0), (.iload_n 2, 0), (.iconst 5, 5), (.irem, 0)] (pc' := 94) (lv' := [(2, .int q2), (0, .ref 0), (1, .int v1)]) (st' := [.int (fhrem q2 (5 : Int32)), .int (q2 / (5 : Int32)), .ref 76]) (σ' := q1) (by decide +kernel) rfl rfl rfl ?_
          obtain ⟨q3, hb3, h⟩ := Option.bind_eq_some_iff.mp h
          refine fhW.callv hΓ mvX1_mostLeft ml_11_326 (t := 76) (ci := 1) (av := [.int (q2 / (5 : Int32)), .int (fhrem q2 (5 : Int32))]) (rest := []) (r := (some (.int q3))) (σ' := q1) (T_X1_mostLeft (E := fhEn Γ) (d := fhD Γ - 1) hE (by omega) (q2 / (5 : Int32)) (fhrem q2 (5 : Int32)) q1 hb3) (by omega) (by decide +kernel) rfl rfl rfl (Nat.le_of_ble_eq_true rfl) rfl ?_
          show fhW fhYF Γ 97 [(2, .int q2), (0, .ref 0), (1, .int v1)] [.int q3] q1
          have e9 := Option.some.inj h
          subst e9
          exact fhW.iret hΓ (by decide +kernel) hk
        · rw [if_pos hc] at h
          refine fhW.blk fhPF fhLL hΓ [(.iconst (-1), -1)] (pc' := 39) (lv' := [(0, .ref 0), (1, .int v1)]) (st' := [.int (-1 : Int32)]) (σ' := q1) (by decide +kernel) rfl rfl rfl ?_
          have e9 := Option.some.inj h
          subst e9
          exact fhW.iret hΓ (by decide +kernel) hk
      · rw [if_neg hc] at h
        refine fhW.blk fhPF fhLL hΓ [(.iconst (-1), -1)] (pc' := 20) (lv' := [(0, .ref 0), (1, .int v1)]) (st' := [.int (-1 : Int32)]) (σ' := σ) (by decide +kernel) rfl rfl rfl ?_
        have e9 := Option.some.inj h
        subst e9
        exact fhW.iret hΓ (by decide +kernel) hk
set_option maxRecDepth 100000 in
theorem T_X11_tells {E : fhE} {d : Nat} (hE : fhEok fhYF E) (hd : 6 ≤ d) (v1 : Int32)  (σ : fhM) {o : Int32 × fhM} (h : f_X11_tells v1 σ = some o) : fhC fhYF E d miX11_tells [.ref 0, .int v1] σ (some (.int o.1)) o.2 := by
  refine fhC.of (y := yX11_tells) (cc := cX11_tells) (nL := 3) (ret := (some .int)) 11 rfl (by decide +kernel) (Nat.le_of_ble_eq_true rfl) ?_
  intro Γ hΓ hR hD hEn
  subst hD; subst hEn
  exact L_X11_tells_E hE hΓ hd v1  σ _ h hR
set_option maxRecDepth 100000 in
set_option maxHeartbeats 4000000 in
theorem L_X6_save_75 {Γ : fhX} (hE : fhEok fhYF (fhEn Γ)) (hΓ : fhOk fhYF 6 cX6_save 6 none Γ) (hd : 1 ≤ fhD Γ) (v2 : Int32) (v3 : Int32)  (σ : fhM) (o : (Int32 × fhM) ⊕ (fhM)) (h : f_X6_save_75 v2 v3 σ = some o) (hk : (fhK (fun x => fhW fhYF Γ 75 [(0, .ref 93), (1, .ref 56), (2, .int v2), (3, .int x.1)] [] x.2) (fun o => fhRet Γ none o)) o) : fhW fhYF Γ 75 [(0, .ref 93), (1, .ref 56), (2, .int v2), (3, .int v3)] [] σ := by
  unfold f_X6_save_75 at h
  refine fhW.blk fhPF fhLL hΓ [(.iload_n 3, 0), (.aload_n 1, 0), (.getfield 59, 0)] (pc' := 80) (lv' := [(0, .ref 93), (1, .ref 56), (2, .int v2), (3, .int v3)]) (st' := [.int (σ.1 56 8), .int v3]) (σ' := σ) (by decide +kernel) rfl rfl rfl ?_
  refine fhW.i_ge hΓ (tgt := 135) (show fhbk _ _ (.if_icmp .ge (55)) _ = true by decide +kernel) (fun hc => ?_) (fun hc => ?_)
  · rw [if_pos hc] at h
    refine fhW.blk fhPF fhLL hΓ [(.aload_n 0, 0), (.aload_n 0, 0), (.getfield 27, 0), (.iconst 1, 1), (.iadd, 0), (.bipush 20, 20), (.irem, 0), (.putfield 27, 0), (.aload_n 0, 0), (.aload_n 0, 0), (.getfield 30, 0), (.iconst 1, 1), (.iadd, 0), (.bipush 20, 20)] (pc' := 157) (lv' := [(0, .ref 93), (1, .ref 56), (2, .int v2), (3, .int v3)]) (st' := [.int (20 : Int32), .int ((σ.1 93 4) + (1 : Int32)), .ref 93]) (σ' := (fhI σ 93 3 (fhrem ((σ.1 93 3) + (1 : Int32)) (20 : Int32)))) (by decide +kernel) rfl rfl rfl ?_
    refine fhW.calls hΓ msJ9_min_7cf53 ml_6_37 (av := [.int ((σ.1 93 4) + (1 : Int32)), .int (20 : Int32)]) (rest := [.ref 93]) (r := (some (.int (f_J9_min_7cf53 ((σ.1 93 4) + (1 : Int32)) (20 : Int32) (fhI σ 93 3 (fhrem ((σ.1 93 3) + (1 : Int32)) (20 : Int32))))))) (σ' := (fhI σ 93 3 (fhrem ((σ.1 93 3) + (1 : Int32)) (20 : Int32)))) (T_J9_min_7cf53 (E := fhEn Γ) (d := fhD Γ - 1) hE (by omega) ((σ.1 93 4) + (1 : Int32)) (20 : Int32) (fhI σ 93 3 (fhrem ((σ.1 93 3) + (1 : Int32)) (20 : Int32)))) (by omega) (by decide +kernel) rfl (Nat.le_of_ble_eq_true rfl) rfl ?_
    show fhW fhYF Γ 160 [(0, .ref 93), (1, .ref 56), (2, .int v2), (3, .int v3)] [.int (f_J9_min_7cf53 ((σ.1 93 4) + (1 : Int32)) (20 : Int32) (fhI σ 93 3 (fhrem ((σ.1 93 3) + (1 : Int32)) (20 : Int32)))), .ref 93] (fhI σ 93 3 (fhrem ((σ.1 93 3) + (1 : Int32)) (20 : Int32)))
    refine fhW.blk fhPF fhLL hΓ [(.putfield 30, 0)] (pc' := 163) (lv' := [(0, .ref 93), (1, .ref 56), (2, .int v2), (3, .int v3)]) (st' := []) (σ' := (fhI (fhI σ 93 3 (fhrem ((σ.1 93 3) + (1 : Int32)) (20 : Int32))) 93 4 (f_J9_min_7cf53 ((σ.1 93 4) + (1 : Int32)) (20 : Int32) (fhI σ 93 3 (fhrem ((σ.1 93 3) + (1 : Int32)) (20 : Int32)))))) (by decide +kernel) rfl rfl rfl ?_
    have e9 := Option.some.inj h
    subst e9
    exact fhW.vret hΓ (by decide +kernel) hk
  · rw [if_neg hc] at h
    refine fhW.blk fhPF fhLL hΓ [(.aload_n 1, 0), (.getfield 62, 0), (.iload_n 3, 0)] (pc' := 88) (lv' := [(0, .ref 93), (1, .ref 56), (2, .int v2), (3, .int v3)]) (st' := [.int v3, .ref 72]) (σ' := σ) (by decide +kernel) rfl rfl rfl ?_
    refine fhW.callv hΓ mvX2_get ml_6_47 (t := 72) (ci := 2) (av := [.int v3]) (rest := []) (r := (some (.int (fcG σ 72 v3)))) (σ' := σ) (T_X2_get (E := fhEn Γ) (d := fhD Γ - 1) hE (by omega) 72 v3 rfl σ) (by omega) (by decide +kernel) rfl rfl rfl (Nat.le_of_ble_eq_true rfl) rfl ?_
    show fhW fhYF Γ 91 [(0, .ref 93), (1, .ref 56), (2, .int v2), (3, .int v3)] [.int (fcG σ 72 v3)] σ
    refine fhW.blk fhPF fhLL hΓ [(.istore 4, 0), (.iload_n 2, 0), (.iconst 3, 3), (.iadd, 0), (.iload 4, 0), (.iconst 5, 5), (.ishr, 0), (.iadd, 0), (.istore 5, 0)] (pc' := 103) (lv' := [(5, .int ((v2 + (3 : Int32)) + ((fcG σ 72 v3) >>> ((5 : Int32) &&& 31)))), (4, .int (fcG σ 72 v3)), (0, .ref 93), (1, .ref 56), (2, .int v2), (3, .int v3)]) (st' := []) (σ' := σ) (by decide +kernel) rfl rfl rfl ?_
    obtain ⟨w5_1, e1, h⟩ := fhlet_elim h
    rw [← e1]
    refine fhW.blk fhPF fhLL hΓ [(.aload_n 0, 0), (.getfield 20, 0), (.iload 5, 0), (.aload_n 0, 0), (.getfield 20, 0), (.iload 5, 0)] (pc' := 115) (lv' := [(5, .int w5_1), (4, .int (fcG σ 72 v3)), (0, .ref 93), (1, .ref 56), (2, .int v2), (3, .int v3)]) (st' := [.int w5_1, .ref 96, .int w5_1, .ref 96]) (σ' := σ) (by decide +kernel) rfl rfl rfl ?_
    refine fhW.callv hΓ mvX2_get ml_6_47 (t := 96) (ci := 2) (av := [.int w5_1]) (rest := [.int w5_1, .ref 96]) (r := (some (.int (fcG σ 96 w5_1)))) (σ' := σ) (T_X2_get (E := fhEn Γ) (d := fhD Γ - 1) hE (by omega) 96 w5_1 rfl σ) (by omega) (by decide +kernel) rfl rfl rfl (Nat.le_of_ble_eq_true rfl) rfl ?_
    show fhW fhYF Γ 118 [(5, .int w5_1), (4, .int (fcG σ 72 v3)), (0, .ref 93), (1, .ref 56), (2, .int v2), (3, .int v3)] [.int (fcG σ 96 w5_1), .int w5_1, .ref 96] σ
    refine fhW.blk fhPF fhLL hΓ [(.iconst 1, 1), (.iload 4, 0), (.bipush 31, 31), (.iand, 0), (.ishl, 0), (.ior, 0)] (pc' := 126) (lv' := [(5, .int w5_1), (4, .int (fcG σ 72 v3)), (0, .ref 93), (1, .ref 56), (2, .int v2), (3, .int v3)]) (st' := [.int ((fcG σ 96 w5_1) ||| ((1 : Int32) <<< (((fcG σ 72 v3) &&& (31 : Int32)) &&& 31))), .int w5_1, .ref 96]) (σ' := σ) (by decide +kernel) rfl rfl rfl ?_
    refine fhW.callv hΓ mvX2_put ml_6_33 (t := 96) (ci := 2) (av := [.int w5_1, .int ((fcG σ 96 w5_1) ||| ((1 : Int32) <<< (((fcG σ 72 v3) &&& (31 : Int32)) &&& 31)))]) (rest := []) (r := none) (σ' := (fcP σ 96 w5_1 ((fcG σ 96 w5_1) ||| ((1 : Int32) <<< (((fcG σ 72 v3) &&& (31 : Int32)) &&& 31))))) (T_X2_put (E := fhEn Γ) (d := fhD Γ - 1) hE (by omega) 96 w5_1 ((fcG σ 96 w5_1) ||| ((1 : Int32) <<< (((fcG σ 72 v3) &&& (31 : Int32)) &&& 31))) rfl σ) (by omega) (by decide +kernel) rfl rfl rfl (Nat.le_of_ble_eq_true rfl) rfl ?_
    show fhW fhYF Γ 129 [(5, .int w5_1), (4, .int (fcG σ 72 v3)), (0, .ref 93), (1, .ref 56), (2, .int v2), (3, .int v3)] [] (fcP σ 96 w5_1 ((fcG σ 96 w5_1) ||| ((1 : Int32) <<< (((fcG σ 72 v3) &&& (31 : Int32)) &&& 31))))
    refine fhW.blk fhPF fhLL hΓ [(.iinc 3 1, 1)] (pc' := 132) (lv' := [(3, .int (v3 + (1 : Int32))), (5, .int w5_1), (4, .int (fcG σ 72 v3)), (0, .ref 93), (1, .ref 56), (2, .int v2)]) (st' := []) (σ' := (fcP σ 96 w5_1 ((fcG σ 96 w5_1) ||| ((1 : Int32) <<< (((fcG σ 72 v3) &&& (31 : Int32)) &&& 31))))) (by decide +kernel) rfl rfl rfl ?_
    refine fhW.goto hΓ (off := (-57)) (tgt := 75) (by decide +kernel) ?_
    refine fhW.sub (lv' := [(0, .ref 93), (1, .ref 56), (2, .int v2), (3, .int (v3 + (1 : Int32)))]) [3, 4, 5, 0] rfl ?_
    have e9 := Option.some.inj h
    subst e9
    exact hk
set_option maxRecDepth 100000 in
set_option maxHeartbeats 4000000 in
theorem L_X6_save_10 {Γ : fhX} (hE : fhEok fhYF (fhEn Γ)) (hΓ : fhOk fhYF 6 cX6_save 6 none Γ) (hd : 1 ≤ fhD Γ) (v2 : Int32) (v3 : Int32)  (σ : fhM) (o : (Int32 × fhM) ⊕ (fhM)) (h : f_X6_save_10 v2 v3 σ = some o) (hk : (fhK (fun x => fhW fhYF Γ 10 [(0, .ref 93), (1, .ref 56), (2, .int v2), (3, .int x.1)] [] x.2) (fun o => fhRet Γ none o)) o) : fhW fhYF Γ 10 [(0, .ref 93), (1, .ref 56), (2, .int v2), (3, .int v3)] [] σ := by
  unfold f_X6_save_10 at h
  refine fhW.blk fhPF fhLL hΓ [(.iload_n 3, 0), (.bipush 35, 35)] (pc' := 13) (lv' := [(0, .ref 93), (1, .ref 56), (2, .int v2), (3, .int v3)]) (st' := [.int (35 : Int32), .int v3]) (σ' := σ) (by decide +kernel) rfl rfl rfl ?_
  refine fhW.i_ge hΓ (tgt := 33) (show fhbk _ _ (.if_icmp .ge (20)) _ = true by decide +kernel) (fun hc => ?_) (fun hc => ?_)
  · rw [if_pos hc] at h
    refine fhW.blk fhPF fhLL hΓ [(.aload_n 0, 0), (.getfield 20, 0), (.iload_n 2, 0), (.aload_n 1, 0), (.getfield 51, 0)] (pc' := 42) (lv' := [(0, .ref 93), (1, .ref 56), (2, .int v2), (3, .int v3)]) (st' := [.int (σ.1 56 9), .int v2, .ref 96]) (σ' := σ) (by decide +kernel) rfl rfl rfl ?_
    refine fhW.callv hΓ mvX2_put ml_6_33 (t := 96) (ci := 2) (av := [.int v2, .int (σ.1 56 9)]) (rest := []) (r := none) (σ' := (fcP σ 96 v2 (σ.1 56 9))) (T_X2_put (E := fhEn Γ) (d := fhD Γ - 1) hE (by omega) 96 v2 (σ.1 56 9) rfl σ) (by omega) (by decide +kernel) rfl rfl rfl (Nat.le_of_ble_eq_true rfl) rfl ?_
    show fhW fhYF Γ 45 [(0, .ref 93), (1, .ref 56), (2, .int v2), (3, .int v3)] [] (fcP σ 96 v2 (σ.1 56 9))
    refine fhW.blk fhPF fhLL hΓ [(.aload_n 0, 0), (.getfield 20, 0), (.iload_n 2, 0), (.iconst 1, 1), (.iadd, 0), (.aload_n 1, 0), (.getfield 56, 0)] (pc' := 56) (lv' := [(0, .ref 93), (1, .ref 56), (2, .int v2), (3, .int v3)]) (st' := [.int (σ.1 56 10), .int (v2 + (1 : Int32)), .ref 96]) (σ' := (fcP σ 96 v2 (σ.1 56 9))) (by decide +kernel) rfl rfl rfl ?_
    refine fhW.callv hΓ mvX2_put ml_6_33 (t := 96) (ci := 2) (av := [.int (v2 + (1 : Int32)), .int (σ.1 56 10)]) (rest := []) (r := none) (σ' := (fcP (fcP σ 96 v2 (σ.1 56 9)) 96 (v2 + (1 : Int32)) (σ.1 56 10))) (T_X2_put (E := fhEn Γ) (d := fhD Γ - 1) hE (by omega) 96 (v2 + (1 : Int32)) (σ.1 56 10) rfl (fcP σ 96 v2 (σ.1 56 9))) (by omega) (by decide +kernel) rfl rfl rfl (Nat.le_of_ble_eq_true rfl) rfl ?_
    show fhW fhYF Γ 59 [(0, .ref 93), (1, .ref 56), (2, .int v2), (3, .int v3)] [] (fcP (fcP σ 96 v2 (σ.1 56 9)) 96 (v2 + (1 : Int32)) (σ.1 56 10))
    refine fhW.blk fhPF fhLL hΓ [(.aload_n 0, 0), (.getfield 20, 0), (.iload_n 2, 0), (.iconst 2, 2), (.iadd, 0), (.aload_n 0, 0), (.getfield 23, 0)] (pc' := 70) (lv' := [(0, .ref 93), (1, .ref 56), (2, .int v2), (3, .int v3)]) (st' := [.int (σ.1 93 1), .int (v2 + (2 : Int32)), .ref 96]) (σ' := (fcP (fcP σ 96 v2 (σ.1 56 9)) 96 (v2 + (1 : Int32)) (σ.1 56 10))) (by decide +kernel) rfl rfl rfl ?_
    refine fhW.callv hΓ mvX2_put ml_6_33 (t := 96) (ci := 2) (av := [.int (v2 + (2 : Int32)), .int (σ.1 93 1)]) (rest := []) (r := none) (σ' := (fcP (fcP (fcP σ 96 v2 (σ.1 56 9)) 96 (v2 + (1 : Int32)) (σ.1 56 10)) 96 (v2 + (2 : Int32)) (σ.1 93 1))) (T_X2_put (E := fhEn Γ) (d := fhD Γ - 1) hE (by omega) 96 (v2 + (2 : Int32)) (σ.1 93 1) rfl (fcP (fcP σ 96 v2 (σ.1 56 9)) 96 (v2 + (1 : Int32)) (σ.1 56 10))) (by omega) (by decide +kernel) rfl rfl rfl (Nat.le_of_ble_eq_true rfl) rfl ?_
    show fhW fhYF Γ 73 [(0, .ref 93), (1, .ref 56), (2, .int v2), (3, .int v3)] [] (fcP (fcP (fcP σ 96 v2 (σ.1 56 9)) 96 (v2 + (1 : Int32)) (σ.1 56 10)) 96 (v2 + (2 : Int32)) (σ.1 93 1))
    refine fhW.blk fhPF fhLL hΓ [(.iconst 0, 0), (.istore_n 3, 0)] (pc' := 75) (lv' := [(3, .int (0 : Int32)), (0, .ref 93), (1, .ref 56), (2, .int v2)]) (st' := []) (σ' := (fcP (fcP (fcP σ 96 v2 (σ.1 56 9)) 96 (v2 + (1 : Int32)) (σ.1 56 10)) 96 (v2 + (2 : Int32)) (σ.1 93 1))) (by decide +kernel) rfl rfl rfl ?_
    refine fhW.sub (lv' := [(0, .ref 93), (1, .ref 56), (2, .int v2), (3, .int (0 : Int32))]) [1, 2, 3, 0] rfl ?_
    obtain ⟨z1, hz, e2⟩ := Option.map_eq_some_iff.mp h
    clear h
    subst e2
    have h := hz
    have hk : (fun o => fhRet Γ none o) z1 := hk
    exact fhlp_ok (W := (fun x => fhW fhYF Γ 75 [(0, .ref 93), (1, .ref 56), (2, .int v2), (3, .int x.1)] [] x.2)) (B := (fun o => fhRet Γ none o)) (fun x o h hk => L_X6_save_75 hE hΓ hd v2 x.1 x.2 o h hk) ((0 : Int32), (fcP (fcP (fcP σ 96 v2 (σ.1 56 9)) 96 (v2 + (1 : Int32)) (σ.1 56 10)) 96 (v2 + (2 : Int32)) (σ.1 93 1))) _ h hk
  · rw [if_neg hc] at h
    refine fhW.blk fhPF fhLL hΓ [(.aload_n 0, 0), (.getfield 20, 0), (.iload_n 2, 0), (.iload_n 3, 0), (.iadd, 0), (.iconst 0, 0)] (pc' := 24) (lv' := [(0, .ref 93), (1, .ref 56), (2, .int v2), (3, .int v3)]) (st' := [.int (0 : Int32), .int (v2 + v3), .ref 96]) (σ' := σ) (by decide +kernel) rfl rfl rfl ?_
    refine fhW.callv hΓ mvX2_put ml_6_33 (t := 96) (ci := 2) (av := [.int (v2 + v3), .int (0 : Int32)]) (rest := []) (r := none) (σ' := (fcP σ 96 (v2 + v3) (0 : Int32))) (T_X2_put (E := fhEn Γ) (d := fhD Γ - 1) hE (by omega) 96 (v2 + v3) (0 : Int32) rfl σ) (by omega) (by decide +kernel) rfl rfl rfl (Nat.le_of_ble_eq_true rfl) rfl ?_
    show fhW fhYF Γ 27 [(0, .ref 93), (1, .ref 56), (2, .int v2), (3, .int v3)] [] (fcP σ 96 (v2 + v3) (0 : Int32))
    refine fhW.blk fhPF fhLL hΓ [(.iinc 3 1, 1)] (pc' := 30) (lv' := [(3, .int (v3 + (1 : Int32))), (0, .ref 93), (1, .ref 56), (2, .int v2)]) (st' := []) (σ' := (fcP σ 96 (v2 + v3) (0 : Int32))) (by decide +kernel) rfl rfl rfl ?_
    refine fhW.goto hΓ (off := (-20)) (tgt := 10) (by decide +kernel) ?_
    refine fhW.sub (lv' := [(0, .ref 93), (1, .ref 56), (2, .int v2), (3, .int (v3 + (1 : Int32)))]) [1, 2, 3, 0] rfl ?_
    have e9 := Option.some.inj h
    subst e9
    exact hk
set_option maxRecDepth 100000 in
set_option maxHeartbeats 4000000 in
theorem L_X6_save_E {Γ : fhX} (hE : fhEok fhYF (fhEn Γ)) (hΓ : fhOk fhYF 6 cX6_save 6 none Γ) (hd : 1 ≤ fhD Γ)   (σ : fhM) (o : fhM) (h : f_X6_save σ = some o) (hk : (fun o => fhRet Γ none o) o) : fhW fhYF Γ 0 [(0, .ref 93), (1, .ref 56)] [] σ := by
  unfold f_X6_save at h
  refine fhW.blk fhPF fhLL hΓ [(.aload_n 0, 0), (.getfield 27, 0), (.bipush 35, 35), (.imul, 0), (.istore_n 2, 0), (.iconst 0, 0), (.istore_n 3, 0)] (pc' := 10) (lv' := [(3, .int (0 : Int32)), (2, .int ((σ.1 93 3) * (35 : Int32))), (0, .ref 93), (1, .ref 56)]) (st' := []) (σ' := σ) (by decide +kernel) rfl rfl rfl ?_
  refine fhW.sub (lv' := [(0, .ref 93), (1, .ref 56), (2, .int ((σ.1 93 3) * (35 : Int32))), (3, .int (0 : Int32))]) [2, 3, 1, 0] rfl ?_
  exact fhlp_ok (W := (fun x => fhW fhYF Γ 10 [(0, .ref 93), (1, .ref 56), (2, .int ((σ.1 93 3) * (35 : Int32))), (3, .int x.1)] [] x.2)) (B := (fun o => fhRet Γ none o)) (fun x o h hk => L_X6_save_10 hE hΓ hd ((σ.1 93 3) * (35 : Int32)) x.1 x.2 o h hk) ((0 : Int32), σ) _ h hk
set_option maxRecDepth 100000 in
theorem T_X6_save {E : fhE} {d : Nat} (hE : fhEok fhYF E) (hd : 1 ≤ d)   (σ : fhM) {o : fhM} (h : f_X6_save σ = some o) : fhC fhYF E d miX6_save [.ref 93, .ref 56] σ none o := by
  refine fhC.of (y := yX6_save) (cc := cX6_save) (nL := 6) (ret := none) 6 rfl (by decide +kernel) (Nat.le_of_ble_eq_true rfl) ?_
  intro Γ hΓ hR hD hEn
  subst hD; subst hEn
  exact L_X6_save_E hE hΓ hd   σ _ h hR
set_option maxRecDepth 100000 in
set_option maxHeartbeats 4000000 in
theorem L_X4_keepAlike_63 {Γ : fhX} (hE : fhEok fhYF (fhEn Γ)) (hΓ : fhOk fhYF 4 cX4_keepAlike 7 none Γ) (hd : 4 ≤ fhD Γ) (v1 : Nat) (v2 : Int32) (v3 : Int32) (v4 : Int32) (v5 : Int32) (hv1 : fhiC v1 = true) (σ : fhM) (o : (Int32 × Int32 × fhM) ⊕ (fhM)) (h : f_X4_keepAlike_63 v1 v2 v3 v4 v5 σ = some o) (hk : (fhK (fun x => fhW fhYF Γ 17 [(0, .ref 56), (1, .ref v1), (2, .int v2), (3, .int v3), (4, .int x.1), (5, .int x.2.1)] [] x.2.2) (fun o => fhRet Γ none o)) o) : fhW fhYF Γ 63 [(0, .ref 56), (1, .ref v1), (2, .int v2), (3, .int v3), (4, .int v4), (5, .int v5)] [] σ := by
  unfold f_X4_keepAlike_63 at h
  refine fhW.blk fhPF fhLL hΓ [(.iinc 5 1, 1)] (pc' := 66) (lv' := [(5, .int (v5 + (1 : Int32))), (0, .ref 56), (1, .ref v1), (2, .int v2), (3, .int v3), (4, .int v4)]) (st' := []) (σ' := σ) (by decide +kernel) rfl rfl rfl ?_
  refine fhW.goto hΓ (off := (-49)) (tgt := 17) (by decide +kernel) ?_
  refine fhW.sub (lv' := [(0, .ref 56), (1, .ref v1), (2, .int v2), (3, .int v3), (4, .int v4), (5, .int (v5 + (1 : Int32)))]) [1, 2, 3, 4, 5, 0] rfl ?_
  have e9 := Option.some.inj h
  subst e9
  exact hk
set_option maxRecDepth 100000 in
set_option maxHeartbeats 4000000 in
theorem L_X4_keepAlike_17 {Γ : fhX} (hE : fhEok fhYF (fhEn Γ)) (hΓ : fhOk fhYF 4 cX4_keepAlike 7 none Γ) (hd : 4 ≤ fhD Γ) (v1 : Nat) (v2 : Int32) (v3 : Int32) (v4 : Int32) (v5 : Int32) (hv1 : fhiC v1 = true) (σ : fhM) (o : (Int32 × Int32 × fhM) ⊕ (fhM)) (h : f_X4_keepAlike_17 v1 v2 v3 v4 v5 σ = some o) (hk : (fhK (fun x => fhW fhYF Γ 17 [(0, .ref 56), (1, .ref v1), (2, .int v2), (3, .int v3), (4, .int x.1), (5, .int x.2.1)] [] x.2.2) (fun o => fhRet Γ none o)) o) : fhW fhYF Γ 17 [(0, .ref 56), (1, .ref v1), (2, .int v2), (3, .int v3), (4, .int v4), (5, .int v5)] [] σ := by
  unfold f_X4_keepAlike_17 at h
  refine fhW.blk fhPF fhLL hΓ [(.iload 5, 0), (.aload_n 0, 0), (.getfield 63, 0)] (pc' := 23) (lv' := [(0, .ref 56), (1, .ref v1), (2, .int v2), (3, .int v3), (4, .int v4), (5, .int v5)]) (st' := [.int (σ.1 56 8), .int v5]) (σ' := σ) (by decide +kernel) rfl rfl rfl ?_
  refine fhW.i_ge hΓ (tgt := 69) (show fhbk _ _ (.if_icmp .ge (46)) _ = true by decide +kernel) (fun hc => ?_) (fun hc => ?_)
  · rw [if_pos hc] at h
    refine fhW.blk fhPF fhLL hΓ [(.aload_n 0, 0), (.iload 4, 0), (.putfield 63, 0), (.aload_n 0, 0)] (pc' := 76) (lv' := [(0, .ref 56), (1, .ref v1), (2, .int v2), (3, .int v3), (4, .int v4), (5, .int v5)]) (st' := [.ref 56]) (σ' := (fhI σ 56 8 v4)) (by decide +kernel) rfl rfl rfl ?_
    obtain ⟨q1, hb1, h⟩ := Option.bind_eq_some_iff.mp h
    refine fhW.callv hΓ mvX4_settle ml_4_72 (t := 56) (ci := 4) (av := []) (rest := []) (r := none) (σ' := q1) (T_X4_settle (E := fhEn Γ) (d := fhD Γ - 1) hE (by omega) (fhI σ 56 8 v4) hb1) (by omega) (by decide +kernel) rfl rfl rfl (Nat.le_of_ble_eq_true rfl) rfl ?_
    show fhW fhYF Γ 79 [(0, .ref 56), (1, .ref v1), (2, .int v2), (3, .int v3), (4, .int v4), (5, .int v5)] [] q1
    have e9 := Option.some.inj h
    subst e9
    exact fhW.vret hΓ (by decide +kernel) hk
  · rw [if_neg hc] at h
    refine fhW.blk fhPF fhLL hΓ [(.aload_n 0, 0), (.getfield 36, 0), (.iload 5, 0)] (pc' := 32) (lv' := [(0, .ref 56), (1, .ref v1), (2, .int v2), (3, .int v3), (4, .int v4), (5, .int v5)]) (st' := [.int v5, .ref 72]) (σ' := σ) (by decide +kernel) rfl rfl rfl ?_
    refine fhW.callv hΓ mvX2_get ml_4_55 (t := 72) (ci := 2) (av := [.int v5]) (rest := []) (r := (some (.int (fcG σ 72 v5)))) (σ' := σ) (T_X2_get (E := fhEn Γ) (d := fhD Γ - 1) hE (by omega) 72 v5 rfl σ) (by omega) (by decide +kernel) rfl rfl rfl (Nat.le_of_ble_eq_true rfl) rfl ?_
    show fhW fhYF Γ 35 [(0, .ref 56), (1, .ref v1), (2, .int v2), (3, .int v3), (4, .int v4), (5, .int v5)] [.int (fcG σ 72 v5)] σ
    refine fhW.blk fhPF fhLL hΓ [(.istore 6, 0), (.aload_n 1, 0), (.iload 6, 0)] (pc' := 40) (lv' := [(6, .int (fcG σ 72 v5)), (0, .ref 56), (1, .ref v1), (2, .int v2), (3, .int v3), (4, .int v4), (5, .int v5)]) (st' := [.int (fcG σ 72 v5), .ref v1]) (σ' := σ) (by decide +kernel) rfl rfl rfl ?_
    refine fhW.callv hΓ mvX2_get ml_4_55 (t := v1) (ci := 2) (av := [.int (fcG σ 72 v5)]) (rest := []) (r := (some (.int (fcG σ v1 (fcG σ 72 v5))))) (σ' := σ) (T_X2_get (E := fhEn Γ) (d := fhD Γ - 1) hE (by omega) v1 (fcG σ 72 v5) hv1 σ) (by omega) (by decide +kernel) rfl (fhiC_g hv1) rfl (Nat.le_of_ble_eq_true rfl) rfl ?_
    show fhW fhYF Γ 43 [(6, .int (fcG σ 72 v5)), (0, .ref 56), (1, .ref v1), (2, .int v2), (3, .int v3), (4, .int v4), (5, .int v5)] [.int (fcG σ v1 (fcG σ 72 v5))] σ
    refine fhW.blk fhPF fhLL hΓ [(.iload_n 2, 0), (.iand, 0), (.iload_n 3, 0)] (pc' := 46) (lv' := [(6, .int (fcG σ 72 v5)), (0, .ref 56), (1, .ref v1), (2, .int v2), (3, .int v3), (4, .int v4), (5, .int v5)]) (st' := [.int v3, .int ((fcG σ v1 (fcG σ 72 v5)) &&& v2)]) (σ' := σ) (by decide +kernel) rfl rfl rfl ?_
    refine fhW.i_ne hΓ (tgt := 63) (show fhbk _ _ (.if_icmp .ne (17)) _ = true by decide +kernel) (fun hc => ?_) (fun hc => ?_)
    · rw [if_neg hc] at h
      refine fhW.sub (lv' := [(0, .ref 56), (1, .ref v1), (2, .int v2), (3, .int v3), (4, .int v4), (5, .int v5)]) [1, 2, 3, 4, 5, 6] rfl ?_
      exact L_X4_keepAlike_63 hE hΓ hd v1 v2 v3 v4 v5 hv1 σ _ h hk
    · rw [if_pos hc] at h
      refine fhW.blk fhPF fhLL hΓ [(.aload_n 0, 0), (.getfield 36, 0), (.iload 4, 0), (.iload 6, 0)] (pc' := 57) (lv' := [(6, .int (fcG σ 72 v5)), (0, .ref 56), (1, .ref v1), (2, .int v2), (3, .int v3), (4, .int v4), (5, .int v5)]) (st' := [.int (fcG σ 72 v5), .int v4, .ref 72]) (σ' := σ) (by decide +kernel) rfl rfl rfl ?_
      refine fhW.callv hΓ mvX2_put ml_4_59 (t := 72) (ci := 2) (av := [.int v4, .int (fcG σ 72 v5)]) (rest := []) (r := none) (σ' := (fcP σ 72 v4 (fcG σ 72 v5))) (T_X2_put (E := fhEn Γ) (d := fhD Γ - 1) hE (by omega) 72 v4 (fcG σ 72 v5) rfl σ) (by omega) (by decide +kernel) rfl rfl rfl (Nat.le_of_ble_eq_true rfl) rfl ?_
      show fhW fhYF Γ 60 [(6, .int (fcG σ 72 v5)), (0, .ref 56), (1, .ref v1), (2, .int v2), (3, .int v3), (4, .int v4), (5, .int v5)] [] (fcP σ 72 v4 (fcG σ 72 v5))
      refine fhW.blk fhPF fhLL hΓ [(.iinc 4 1, 1)] (pc' := 63) (lv' := [(4, .int (v4 + (1 : Int32))), (6, .int (fcG σ 72 v5)), (0, .ref 56), (1, .ref v1), (2, .int v2), (3, .int v3), (5, .int v5)]) (st' := []) (σ' := (fcP σ 72 v4 (fcG σ 72 v5))) (by decide +kernel) rfl rfl rfl ?_
      refine fhW.sub (lv' := [(0, .ref 56), (1, .ref v1), (2, .int v2), (3, .int v3), (4, .int (v4 + (1 : Int32))), (5, .int v5)]) [2, 3, 4, 5, 0, 6] rfl ?_
      exact L_X4_keepAlike_63 hE hΓ hd v1 v2 v3 (v4 + (1 : Int32)) v5 hv1 (fcP σ 72 v4 (fcG σ 72 v5)) _ h hk
set_option maxRecDepth 100000 in
set_option maxHeartbeats 4000000 in
theorem L_X4_keepAlike_E {Γ : fhX} (hE : fhEok fhYF (fhEn Γ)) (hΓ : fhOk fhYF 4 cX4_keepAlike 7 none Γ) (hd : 4 ≤ fhD Γ) (v1 : Nat) (v2 : Int32) (hv1 : fhiC v1 = true) (σ : fhM) (o : fhM) (h : f_X4_keepAlike v1 v2 σ = some o) (hk : (fun o => fhRet Γ none o) o) : fhW fhYF Γ 0 [(0, .ref 56), (1, .ref v1), (2, .int v2)] [] σ := by
  unfold f_X4_keepAlike at h
  refine fhW.blk fhPF fhLL hΓ [(.aload_n 1, 0), (.aload_n 0, 0), (.getfield 69, 0)] (pc' := 5) (lv' := [(0, .ref 56), (1, .ref v1), (2, .int v2)]) (st' := [.int (σ.1 56 9), .ref v1]) (σ' := σ) (by decide +kernel) rfl rfl rfl ?_
  refine fhW.callv hΓ mvX2_get ml_4_55 (t := v1) (ci := 2) (av := [.int (σ.1 56 9)]) (rest := []) (r := (some (.int (fcG σ v1 (σ.1 56 9))))) (σ' := σ) (T_X2_get (E := fhEn Γ) (d := fhD Γ - 1) hE (by omega) v1 (σ.1 56 9) hv1 σ) (by omega) (by decide +kernel) rfl (fhiC_g hv1) rfl (Nat.le_of_ble_eq_true rfl) rfl ?_
  show fhW fhYF Γ 8 [(0, .ref 56), (1, .ref v1), (2, .int v2)] [.int (fcG σ v1 (σ.1 56 9))] σ
  refine fhW.blk fhPF fhLL hΓ [(.iload_n 2, 0), (.iand, 0), (.istore_n 3, 0), (.iconst 0, 0), (.istore 4, 0), (.iconst 0, 0), (.istore 5, 0)] (pc' := 17) (lv' := [(5, .int (0 : Int32)), (4, .int (0 : Int32)), (3, .int ((fcG σ v1 (σ.1 56 9)) &&& v2)), (0, .ref 56), (1, .ref v1), (2, .int v2)]) (st' := []) (σ' := σ) (by decide +kernel) rfl rfl rfl ?_
  refine fhW.sub (lv' := [(0, .ref 56), (1, .ref v1), (2, .int v2), (3, .int ((fcG σ v1 (σ.1 56 9)) &&& v2)), (4, .int (0 : Int32)), (5, .int (0 : Int32))]) [3, 4, 5, 2, 1, 0] rfl ?_
  exact fhlp_ok (W := (fun x => fhW fhYF Γ 17 [(0, .ref 56), (1, .ref v1), (2, .int v2), (3, .int ((fcG σ v1 (σ.1 56 9)) &&& v2)), (4, .int x.1), (5, .int x.2.1)] [] x.2.2)) (B := (fun o => fhRet Γ none o)) (fun x o h hk => L_X4_keepAlike_17 hE hΓ hd v1 v2 ((fcG σ v1 (σ.1 56 9)) &&& v2) x.1 x.2.1 hv1 x.2.2 o h hk) ((0 : Int32), (0 : Int32), σ) _ h hk
set_option maxRecDepth 100000 in
theorem T_X4_keepAlike {E : fhE} {d : Nat} (hE : fhEok fhYF E) (hd : 4 ≤ d) (v1 : Nat) (v2 : Int32) (hv1 : fhiC v1 = true) (σ : fhM) {o : fhM} (h : f_X4_keepAlike v1 v2 σ = some o) : fhC fhYF E d miX4_keepAlike [.ref 56, .ref v1, .int v2] σ none o := by
  refine fhC.of (y := yX4_keepAlike) (cc := cX4_keepAlike) (nL := 7) (ret := none) 4 rfl (by decide +kernel) (Nat.le_of_ble_eq_true rfl) ?_
  intro Γ hΓ hR hD hEn
  subst hD; subst hEn
  exact L_X4_keepAlike_E hE hΓ hd v1 v2 hv1 σ _ h hR

