set_option maxRecDepth 100000 in
set_option maxHeartbeats 4000000 in
theorem L_X1_slowestRow_67 {Γ : fhX} (hE : fhEok fhYF (fhEn Γ)) (hΓ : fhOk fhYF 1 cX1_slowestRow 6 (some .int) Γ) (hd : 2 ≤ fhD Γ) (v1 : Int32) (v2 : Int32) (v3 : Int32) (v4 : Int32)  (σ : fhM) (o : (Int32 × Int32 × Int32) ⊕ (Int32)) (h : f_X1_slowestRow_67 v1 v2 v3 v4 σ = some o) (hk : (fhK (fun x => fhW fhYF Γ 7 [(0, .ref 76), (1, .int v1), (2, .int x.1), (3, .int x.2.1), (4, .int x.2.2)] [] σ) (fun o => fhRet Γ (some (.int o)) σ)) o) : fhW fhYF Γ 67 [(0, .ref 76), (1, .int v1), (2, .int v2), (3, .int v3), (4, .int v4)] [] σ := by
  unfold f_X1_slowestRow_67 at h
  refine fhW.blk fhPF fhLL hΓ [(.iinc 4 1, 1)] (pc' := 70) (lv' := [(4, .int (v4 + (1 : Int32))), (0, .ref 76), (1, .int v1), (2, .int v2), (3, .int v3)]) (st' := []) (σ' := σ) (by decide +kernel) rfl rfl rfl ?_
  refine fhW.goto hΓ (off := (-63)) (tgt := 7) (by decide +kernel) ?_
  refine fhW.sub (lv' := [(0, .ref 76), (1, .int v1), (2, .int v2), (3, .int v3), (4, .int (v4 + (1 : Int32)))]) [1, 2, 3, 4, 0] rfl ?_
  have e9 := Option.some.inj h
  subst e9
  exact hk
set_option maxRecDepth 100000 in
set_option maxHeartbeats 4000000 in
theorem L_X1_slowestRow_7 {Γ : fhX} (hE : fhEok fhYF (fhEn Γ)) (hΓ : fhOk fhYF 1 cX1_slowestRow 6 (some .int) Γ) (hd : 2 ≤ fhD Γ) (v1 : Int32) (v2 : Int32) (v3 : Int32) (v4 : Int32)  (σ : fhM) (o : (Int32 × Int32 × Int32) ⊕ (Int32)) (h : f_X1_slowestRow_7 v1 v2 v3 v4 σ = some o) (hk : (fhK (fun x => fhW fhYF Γ 7 [(0, .ref 76), (1, .int v1), (2, .int x.1), (3, .int x.2.1), (4, .int x.2.2)] [] σ) (fun o => fhRet Γ (some (.int o)) σ)) o) : fhW fhYF Γ 7 [(0, .ref 76), (1, .int v1), (2, .int v2), (3, .int v3), (4, .int v4)] [] σ := by
  unfold f_X1_slowestRow_7 at h
  refine fhW.blk fhPF fhLL hΓ [(.iload 4, 0), (.aload_n 0, 0), (.getfield 41, 0), (.getfield 62, 0)] (pc' := 16) (lv' := [(0, .ref 76), (1, .int v1), (2, .int v2), (3, .int v3), (4, .int v4)]) (st' := [.int (σ.1 39 12), .int v4]) (σ' := σ) (by decide +kernel) rfl rfl rfl ?_
  refine fhW.i_ge hΓ (tgt := 73) (show fhbk _ _ (.if_icmp .ge (57)) _ = true by decide +kernel) (fun hc => ?_) (fun hc => ?_)
  · rw [if_pos hc] at h
    refine fhW.blk fhPF fhLL hΓ [(.iload_n 2, 0)] (pc' := 74) (lv' := [(0, .ref 76), (1, .int v1), (2, .int v2), (3, .int v3), (4, .int v4)]) (st' := [.int v2]) (σ' := σ) (by decide +kernel) rfl rfl rfl ?_
    have e9 := Option.some.inj h
    subst e9
    exact fhW.iret hΓ (by decide +kernel) hk
  · rw [if_neg hc] at h
    refine fhW.blk fhPF fhLL hΓ [(.aload_n 0, 0), (.aload_n 0, 0), (.getfield 41, 0), (.getfield 67, 0), (.iload 4, 0)] (pc' := 29) (lv' := [(0, .ref 76), (1, .int v1), (2, .int v2), (3, .int v3), (4, .int v4)]) (st' := [.int v4, .ref 54, .ref 76]) (σ' := σ) (by decide +kernel) rfl rfl rfl ?_
    refine fhW.callv hΓ mvX2_get ml_1_70 (t := 54) (ci := 2) (av := [.int v4]) (rest := [.ref 76]) (r := (some (.int (fcG σ 54 v4)))) (σ' := σ) (T_X2_get (E := fhEn Γ) (d := fhD Γ - 1) hE (by omega) 54 v4 rfl σ) (by omega) (by decide +kernel) rfl rfl rfl (Nat.le_of_ble_eq_true rfl) rfl ?_
    show fhW fhYF Γ 32 [(0, .ref 76), (1, .int v1), (2, .int v2), (3, .int v3), (4, .int v4)] [.int (fcG σ 54 v4), .ref 76] σ
    refine fhW.blk fhPF fhLL hΓ [(.iload_n 1, 0)] (pc' := 33) (lv' := [(0, .ref 76), (1, .int v1), (2, .int v2), (3, .int v3), (4, .int v4)]) (st' := [.int v1, .int (fcG σ 54 v4), .ref 76]) (σ' := σ) (by decide +kernel) rfl rfl rfl ?_
    refine fhW.callv hΓ mvX1_firstKnown ml_1_101 (t := 76) (ci := 1) (av := [.int (fcG σ 54 v4), .int v1]) (rest := []) (r := (some (.int (f_X1_firstKnown (fcG σ 54 v4) v1 σ)))) (σ' := σ) (T_X1_firstKnown (E := fhEn Γ) (d := fhD Γ - 1) hE (by omega) (fcG σ 54 v4) v1 σ) (by omega) (by decide +kernel) rfl rfl rfl (Nat.le_of_ble_eq_true rfl) rfl ?_
    show fhW fhYF Γ 36 [(0, .ref 76), (1, .int v1), (2, .int v2), (3, .int v3), (4, .int v4)] [.int (f_X1_firstKnown (fcG σ 54 v4) v1 σ)] σ
    refine fhW.blk fhPF fhLL hΓ [(.istore 5, 0), (.iload 5, 0), (.bipush 20, 20)] (pc' := 42) (lv' := [(5, .int (f_X1_firstKnown (fcG σ 54 v4) v1 σ)), (0, .ref 76), (1, .int v1), (2, .int v2), (3, .int v3), (4, .int v4)]) (st' := [.int (20 : Int32), .int (f_X1_firstKnown (fcG σ 54 v4) v1 σ)]) (σ' := σ) (by decide +kernel) rfl rfl rfl ?_
    refine fhW.i_gt hΓ (tgt := 67) (show fhbk _ _ (.if_icmp .gt (25)) _ = true by decide +kernel) (fun hc => ?_) (fun hc => ?_)
    · simp only [if_pos hc] at h
      refine fhW.sub (lv' := [(0, .ref 76), (1, .int v1), (2, .int v2), (3, .int v3), (4, .int v4)]) [1, 2, 3, 4, 5] rfl ?_
      exact L_X1_slowestRow_67 hE hΓ hd v1 v2 v3 v4 σ _ h hk
    · simp only [if_neg hc] at h
      refine fhW.blk fhPF fhLL hΓ [(.iload 5, 0), (.iload_n 3, 0)] (pc' := 48) (lv' := [(5, .int (f_X1_firstKnown (fcG σ 54 v4) v1 σ)), (0, .ref 76), (1, .int v1), (2, .int v2), (3, .int v3), (4, .int v4)]) (st' := [.int v3, .int (f_X1_firstKnown (fcG σ 54 v4) v1 σ)]) (σ' := σ) (by decide +kernel) rfl rfl rfl ?_
      refine fhW.i_le hΓ (tgt := 67) (show fhbk _ _ (.if_icmp .le (19)) _ = true by decide +kernel) (fun hc => ?_) (fun hc => ?_)
      · simp only [if_pos hc] at h
        refine fhW.sub (lv' := [(0, .ref 76), (1, .int v1), (2, .int v2), (3, .int v3), (4, .int v4)]) [1, 2, 3, 4, 5] rfl ?_
        exact L_X1_slowestRow_67 hE hΓ hd v1 v2 v3 v4 σ _ h hk
      · simp only [if_neg hc] at h
        refine fhW.blk fhPF fhLL hΓ [(.aload_n 0, 0), (.getfield 41, 0), (.getfield 67, 0), (.iload 4, 0)] (pc' := 60) (lv' := [(5, .int (f_X1_firstKnown (fcG σ 54 v4) v1 σ)), (0, .ref 76), (1, .int v1), (2, .int v2), (3, .int v3), (4, .int v4)]) (st' := [.int v4, .ref 54]) (σ' := σ) (by decide +kernel) rfl rfl rfl ?_
        refine fhW.callv hΓ mvX2_get ml_1_70 (t := 54) (ci := 2) (av := [.int v4]) (rest := []) (r := (some (.int (fcG σ 54 v4)))) (σ' := σ) (T_X2_get (E := fhEn Γ) (d := fhD Γ - 1) hE (by omega) 54 v4 rfl σ) (by omega) (by decide +kernel) rfl rfl rfl (Nat.le_of_ble_eq_true rfl) rfl ?_
        show fhW fhYF Γ 63 [(5, .int (f_X1_firstKnown (fcG σ 54 v4) v1 σ)), (0, .ref 76), (1, .int v1), (2, .int v2), (3, .int v3), (4, .int v4)] [.int (fcG σ 54 v4)] σ
        refine fhW.blk fhPF fhLL hΓ [(.istore_n 2, 0), (.iload 5, 0), (.istore_n 3, 0)] (pc' := 67) (lv' := [(3, .int (f_X1_firstKnown (fcG σ 54 v4) v1 σ)), (2, .int (fcG σ 54 v4)), (5, .int (f_X1_firstKnown (fcG σ 54 v4) v1 σ)), (0, .ref 76), (1, .int v1), (4, .int v4)]) (st' := []) (σ' := σ) (by decide +kernel) rfl rfl rfl ?_
        refine fhW.sub (lv' := [(0, .ref 76), (1, .int v1), (2, .int (fcG σ 54 v4)), (3, .int (f_X1_firstKnown (fcG σ 54 v4) v1 σ)), (4, .int v4)]) [3, 4, 1, 0, 5] rfl ?_
        exact L_X1_slowestRow_67 hE hΓ hd v1 (fcG σ 54 v4) (f_X1_firstKnown (fcG σ 54 v4) v1 σ) v4 σ _ h hk
set_option maxRecDepth 100000 in
set_option maxHeartbeats 4000000 in
theorem L_X1_slowestRow_E {Γ : fhX} (hE : fhEok fhYF (fhEn Γ)) (hΓ : fhOk fhYF 1 cX1_slowestRow 6 (some .int) Γ) (hd : 2 ≤ fhD Γ) (v1 : Int32)  (σ : fhM) (o : Int32) (h : f_X1_slowestRow v1 σ = some o) (hk : (fun o => fhRet Γ (some (.int o)) σ) o) : fhW fhYF Γ 0 [(0, .ref 76), (1, .int v1)] [] σ := by
  unfold f_X1_slowestRow at h
  refine fhW.blk fhPF fhLL hΓ [(.iconst (-1), -1), (.istore_n 2, 0), (.iconst (-1), -1), (.istore_n 3, 0), (.iconst 0, 0), (.istore 4, 0)] (pc' := 7) (lv' := [(4, .int (0 : Int32)), (3, .int (-1 : Int32)), (2, .int (-1 : Int32)), (0, .ref 76), (1, .int v1)]) (st' := []) (σ' := σ) (by decide +kernel) rfl rfl rfl ?_
  refine fhW.sub (lv' := [(0, .ref 76), (1, .int v1), (2, .int (-1 : Int32)), (3, .int (-1 : Int32)), (4, .int (0 : Int32))]) [3, 4, 2, 1, 0] rfl ?_
  exact fhlp_ok (W := (fun x => fhW fhYF Γ 7 [(0, .ref 76), (1, .int v1), (2, .int x.1), (3, .int x.2.1), (4, .int x.2.2)] [] σ)) (B := (fun o => fhRet Γ (some (.int o)) σ)) (fun x o h hk => L_X1_slowestRow_7 hE hΓ hd v1 x.1 x.2.1 x.2.2 σ o h hk) ((-1 : Int32), (-1 : Int32), (0 : Int32)) _ h hk
set_option maxRecDepth 100000 in
theorem T_X1_slowestRow {E : fhE} {d : Nat} (hE : fhEok fhYF E) (hd : 2 ≤ d) (v1 : Int32)  (σ : fhM) {o : Int32} (h : f_X1_slowestRow v1 σ = some o) : fhC fhYF E d miX1_slowestRow [.ref 76, .int v1] σ (some (.int o)) σ := by
  refine fhC.of (y := yX1_slowestRow) (cc := cX1_slowestRow) (nL := 6) (ret := (some .int)) 1 rfl (by decide +kernel) (Nat.le_of_ble_eq_true rfl) ?_
  intro Γ hΓ hR hD hEn
  subst hD; subst hEn
  exact L_X1_slowestRow_E hE hΓ hd v1  σ _ h hR
set_option maxRecDepth 100000 in
set_option maxHeartbeats 4000000 in
theorem L_X11_slowest_E {Γ : fhX} (hE : fhEok fhYF (fhEn Γ)) (hΓ : fhOk fhYF 11 cX11_slowest 4 (some .int) Γ) (hd : 5 ≤ fhD Γ) (v1 : Int32) (v2 : Int32)  (σ : fhM) (o : Int32 × fhM) (h : f_X11_slowest v1 v2 σ = some o) (hk : (fun o => fhRet Γ (some (.int o.1)) o.2) o) : fhW fhYF Γ 0 [(0, .ref 0), (1, .int v1), (2, .int v2)] [] σ := by
  unfold f_X11_slowest at h
  refine fhW.blk fhPF fhLL hΓ [(.aload_n 0, 0), (.iload_n 1, 0)] (pc' := 2) (lv' := [(0, .ref 0), (1, .int v1), (2, .int v2)]) (st' := [.int v1, .ref 0]) (σ' := σ) (by decide +kernel) rfl rfl rfl ?_
  refine fhW.callv hΓ mvX11_isGuest ml_11_212 (t := 0) (ci := 11) (av := [.int v1]) (rest := []) (r := (some (.int (fhb (f_X11_isGuest v1 σ))))) (σ' := σ) (T_X11_isGuest (E := fhEn Γ) (d := fhD Γ - 1) hE (by omega) v1 σ) (by omega) (by decide +kernel) rfl rfl rfl (Nat.le_of_ble_eq_true rfl) rfl ?_
  show fhW fhYF Γ 5 [(0, .ref 0), (1, .int v1), (2, .int v2)] [.int (fhb (f_X11_isGuest v1 σ))] σ
  refine fhW.b_eq hΓ (tgt := 17) (show fhbk _ _ (.ifCond .eq (12)) _ = true by decide +kernel) (fun hc => ?_) (fun hc => ?_)
  · rw [if_neg hc] at h
    refine fhW.blk fhPF fhLL hΓ [(.iconst (-1), -1)] (pc' := 18) (lv' := [(0, .ref 0), (1, .int v1), (2, .int v2)]) (st' := [.int (-1 : Int32)]) (σ' := σ) (by decide +kernel) rfl rfl rfl ?_
    have e9 := Option.some.inj h
    subst e9
    exact fhW.iret hΓ (by decide +kernel) hk
  · rw [if_pos hc] at h
    refine fhW.blk fhPF fhLL hΓ [(.iload_n 2, 0)] (pc' := 9) (lv' := [(0, .ref 0), (1, .int v1), (2, .int v2)]) (st' := [.int v2]) (σ' := σ) (by decide +kernel) rfl rfl rfl ?_
    refine fhW.z_lt hΓ (tgt := 17) (show fhbk _ _ (.ifCond .lt (8)) _ = true by decide +kernel) (fun hc => ?_) (fun hc => ?_)
    · rw [if_pos hc] at h
      refine fhW.blk fhPF fhLL hΓ [(.iconst (-1), -1)] (pc' := 18) (lv' := [(0, .ref 0), (1, .int v1), (2, .int v2)]) (st' := [.int (-1 : Int32)]) (σ' := σ) (by decide +kernel) rfl rfl rfl ?_
      have e9 := Option.some.inj h
      subst e9
      exact fhW.iret hΓ (by decide +kernel) hk
    · rw [if_neg hc] at h
      refine fhW.blk fhPF fhLL hΓ [(.iload_n 2, 0), (.iconst 1, 1)] (pc' := 14) (lv' := [(0, .ref 0), (1, .int v1), (2, .int v2)]) (st' := [.int (1 : Int32), .int v2]) (σ' := σ) (by decide +kernel) rfl rfl rfl ?_
      refine fhW.i_le hΓ (tgt := 19) (show fhbk _ _ (.if_icmp .le (5)) _ = true by decide +kernel) (fun hc => ?_) (fun hc => ?_)
      · rw [if_pos hc] at h
        refine fhW.blk fhPF fhLL hΓ [(.aload_n 0, 0), (.getfield 79, 0)] (pc' := 23) (lv' := [(0, .ref 0), (1, .int v1), (2, .int v2)]) (st' := [.ref 76]) (σ' := σ) (by decide +kernel) rfl rfl rfl ?_
        obtain ⟨q1, hb1, h⟩ := Option.bind_eq_some_iff.mp h
        refine fhW.callv hΓ mvX1_prepare ml_11_296 (t := 76) (ci := 1) (av := []) (rest := []) (r := none) (σ' := q1) (T_X1_prepare (E := fhEn Γ) (d := fhD Γ - 1) hE (by omega) σ hb1) (by omega) (by decide +kernel) rfl rfl rfl (Nat.le_of_ble_eq_true rfl) rfl ?_
        show fhW fhYF Γ 26 [(0, .ref 0), (1, .int v1), (2, .int v2)] [] q1
        refine fhW.blk fhPF fhLL hΓ [(.aload_n 0, 0), (.getfield 79, 0), (.iload_n 1, 0)] (pc' := 31) (lv' := [(0, .ref 0), (1, .int v1), (2, .int v2)]) (st' := [.int v1, .ref 76]) (σ' := q1) (by decide +kernel) rfl rfl rfl ?_
        obtain ⟨q2, hb2, h⟩ := Option.bind_eq_some_iff.mp h
        refine fhW.callv hΓ mvX1_slowestRow ml_11_299 (t := 76) (ci := 1) (av := [.int v1]) (rest := []) (r := (some (.int q2))) (σ' := q1) (T_X1_slowestRow (E := fhEn Γ) (d := fhD Γ - 1) hE (by omega) v1 q1 hb2) (by omega) (by decide +kernel) rfl rfl rfl (Nat.le_of_ble_eq_true rfl) rfl ?_
        show fhW fhYF Γ 34 [(0, .ref 0), (1, .int v1), (2, .int v2)] [.int q2] q1
        refine fhW.blk fhPF fhLL hΓ [(.istore_n 3, 0), (.iload_n 3, 0), (.iconst (-1), -1)] (pc' := 37) (lv' := [(3, .int q2), (0, .ref 0), (1, .int v1), (2, .int v2)]) (st' := [.int (-1 : Int32), .int q2]) (σ' := q1) (by decide +kernel) rfl rfl rfl ?_
        refine fhW.i_eq hΓ (tgt := 44) (show fhbk _ _ (.if_icmp .eq (7)) _ = true by decide +kernel) (fun hc => ?_) (fun hc => ?_)
        · rw [if_pos hc] at h
          refine fhW.blk fhPF fhLL hΓ [(.iload_n 3, 0)] (pc' := 45) (lv' := [(3, .int q2), (0, .ref 0), (1, .int v1), (2, .int v2)]) (st' := [.int q2]) (σ' := q1) (by decide +kernel) rfl rfl rfl ?_
          have e9 := Option.some.inj h
          subst e9
          exact fhW.iret hΓ (by decide +kernel) hk
        · rw [if_neg hc] at h
          refine fhW.blk fhPF fhLL hΓ [(.iload_n 2, 0)] (pc' := 41) (lv' := [(3, .int q2), (0, .ref 0), (1, .int v1), (2, .int v2)]) (st' := [.int v2]) (σ' := q1) (by decide +kernel) rfl rfl rfl ?_
          refine fhW.z_ne hΓ (tgt := 46) (show fhbk _ _ (.ifCond .ne (5)) _ = true by decide +kernel) (fun hc => ?_) (fun hc => ?_)
          · rw [if_neg hc] at h
            refine fhW.blk fhPF fhLL hΓ [(.aload_n 0, 0), (.getfield 79, 0), (.iload_n 3, 0), (.iload_n 1, 0)] (pc' := 52) (lv' := [(3, .int q2), (0, .ref 0), (1, .int v1), (2, .int v2)]) (st' := [.int v1, .int q2, .ref 76]) (σ' := q1) (by decide +kernel) rfl rfl rfl ?_
            refine fhW.callv hΓ mvX1_firstKnown ml_11_302 (t := 76) (ci := 1) (av := [.int q2, .int v1]) (rest := []) (r := (some (.int (f_X1_firstKnown q2 v1 q1)))) (σ' := q1) (T_X1_firstKnown (E := fhEn Γ) (d := fhD Γ - 1) hE (by omega) q2 v1 q1) (by omega) (by decide +kernel) rfl rfl rfl (Nat.le_of_ble_eq_true rfl) rfl ?_
            show fhW fhYF Γ 55 [(3, .int q2), (0, .ref 0), (1, .int v1), (2, .int v2)] [.int (f_X1_firstKnown q2 v1 q1)] q1
            have e9 := Option.some.inj h
            subst e9
            exact fhW.iret hΓ (by decide +kernel) hk
          · rw [if_pos hc] at h
            refine fhW.blk fhPF fhLL hΓ [(.iload_n 3, 0)] (pc' := 45) (lv' := [(3, .int q2), (0, .ref 0), (1, .int v1), (2, .int v2)]) (st' := [.int q2]) (σ' := q1) (by decide +kernel) rfl rfl rfl ?_
            have e9 := Option.some.inj h
            subst e9
            exact fhW.iret hΓ (by decide +kernel) hk
      · rw [if_neg hc] at h
        refine fhW.blk fhPF fhLL hΓ [(.iconst (-1), -1)] (pc' := 18) (lv' := [(0, .ref 0), (1, .int v1), (2, .int v2)]) (st' := [.int (-1 : Int32)]) (σ' := σ) (by decide +kernel) rfl rfl rfl ?_
        have e9 := Option.some.inj h
        subst e9
        exact fhW.iret hΓ (by decide +kernel) hk
set_option maxRecDepth 100000 in
theorem T_X11_slowest {E : fhE} {d : Nat} (hE : fhEok fhYF E) (hd : 5 ≤ d) (v1 : Int32) (v2 : Int32)  (σ : fhM) {o : Int32 × fhM} (h : f_X11_slowest v1 v2 σ = some o) : fhC fhYF E d miX11_slowest [.ref 0, .int v1, .int v2] σ (some (.int o.1)) o.2 := by
  refine fhC.of (y := yX11_slowest) (cc := cX11_slowest) (nL := 4) (ret := (some .int)) 11 rfl (by decide +kernel) (Nat.le_of_ble_eq_true rfl) ?_
  intro Γ hΓ hR hD hEn
  subst hD; subst hEn
  exact L_X11_slowest_E hE hΓ hd v1 v2  σ _ h hR
set_option maxRecDepth 100000 in
set_option maxHeartbeats 4000000 in
theorem L_X1_countKnowing_44 {Γ : fhX} (hE : fhEok fhYF (fhEn Γ)) (hΓ : fhOk fhYF 1 cX1_countKnowing 5 (some .int) Γ) (hd : 2 ≤ fhD Γ) (v1 : Int32) (v2 : Int32) (v4 : Int32) (s0 : Int32) (s1 : Int32)  (σ : fhM) (o : (Int32 × Int32) ⊕ (Int32)) (h : f_X1_countKnowing_44 v1 v2 v4 s0 s1 σ = some o) (hk : (fhK (fun x => fhW fhYF Γ 5 [(0, .ref 76), (1, .int v1), (2, .int v2), (3, .int x.1), (4, .int x.2)] [] σ) (fun o => fhRet Γ (some (.int o)) σ)) o) : fhW fhYF Γ 44 [(0, .ref 76), (1, .int v1), (2, .int v2), (4, .int v4)] [.int s0, .int s1] σ := by
  unfold f_X1_countKnowing_44 at h
  refine fhW.blk fhPF fhLL hΓ [(.iadd, 0), (.istore_n 3, 0), (.iinc 4 1, 1)] (pc' := 49) (lv' := [(4, .int (v4 + (1 : Int32))), (3, .int (s1 + s0)), (0, .ref 76), (1, .int v1), (2, .int v2)]) (st' := []) (σ' := σ) (by decide +kernel) rfl rfl rfl ?_
  refine fhW.goto hΓ (off := (-44)) (tgt := 5) (by decide +kernel) ?_
  refine fhW.sub (lv' := [(0, .ref 76), (1, .int v1), (2, .int v2), (3, .int (s1 + s0)), (4, .int (v4 + (1 : Int32)))]) [2, 3, 4, 1, 0] rfl ?_
  have e9 := Option.some.inj h
  subst e9
  exact hk
set_option maxRecDepth 100000 in
set_option maxHeartbeats 4000000 in
theorem L_X1_countKnowing_5 {Γ : fhX} (hE : fhEok fhYF (fhEn Γ)) (hΓ : fhOk fhYF 1 cX1_countKnowing 5 (some .int) Γ) (hd : 2 ≤ fhD Γ) (v1 : Int32) (v2 : Int32) (v3 : Int32) (v4 : Int32)  (σ : fhM) (o : (Int32 × Int32) ⊕ (Int32)) (h : f_X1_countKnowing_5 v1 v2 v3 v4 σ = some o) (hk : (fhK (fun x => fhW fhYF Γ 5 [(0, .ref 76), (1, .int v1), (2, .int v2), (3, .int x.1), (4, .int x.2)] [] σ) (fun o => fhRet Γ (some (.int o)) σ)) o) : fhW fhYF Γ 5 [(0, .ref 76), (1, .int v1), (2, .int v2), (3, .int v3), (4, .int v4)] [] σ := by
  unfold f_X1_countKnowing_5 at h
  refine fhW.blk fhPF fhLL hΓ [(.iload 4, 0), (.aload_n 0, 0), (.getfield 41, 0), (.getfield 62, 0)] (pc' := 14) (lv' := [(0, .ref 76), (1, .int v1), (2, .int v2), (3, .int v3), (4, .int v4)]) (st' := [.int (σ.1 39 12), .int v4]) (σ' := σ) (by decide +kernel) rfl rfl rfl ?_
  refine fhW.i_ge hΓ (tgt := 52) (show fhbk _ _ (.if_icmp .ge (38)) _ = true by decide +kernel) (fun hc => ?_) (fun hc => ?_)
  · rw [if_pos hc] at h
    refine fhW.blk fhPF fhLL hΓ [(.iload_n 3, 0)] (pc' := 53) (lv' := [(0, .ref 76), (1, .int v1), (2, .int v2), (3, .int v3), (4, .int v4)]) (st' := [.int v3]) (σ' := σ) (by decide +kernel) rfl rfl rfl ?_
    have e9 := Option.some.inj h
    subst e9
    exact fhW.iret hΓ (by decide +kernel) hk
  · rw [if_neg hc] at h
    refine fhW.blk fhPF fhLL hΓ [(.iload_n 3, 0), (.aload_n 0, 0), (.aload_n 0, 0), (.getfield 41, 0), (.getfield 67, 0), (.iload 4, 0)] (pc' := 28) (lv' := [(0, .ref 76), (1, .int v1), (2, .int v2), (3, .int v3), (4, .int v4)]) (st' := [.int v4, .ref 54, .ref 76, .int v3]) (σ' := σ) (by decide +kernel) rfl rfl rfl ?_
    refine fhW.callv hΓ mvX2_get ml_1_70 (t := 54) (ci := 2) (av := [.int v4]) (rest := [.ref 76, .int v3]) (r := (some (.int (fcG σ 54 v4)))) (σ' := σ) (T_X2_get (E := fhEn Γ) (d := fhD Γ - 1) hE (by omega) 54 v4 rfl σ) (by omega) (by decide +kernel) rfl rfl rfl (Nat.le_of_ble_eq_true rfl) rfl ?_
    show fhW fhYF Γ 31 [(0, .ref 76), (1, .int v1), (2, .int v2), (3, .int v3), (4, .int v4)] [.int (fcG σ 54 v4), .ref 76, .int v3] σ
    refine fhW.blk fhPF fhLL hΓ [(.iload_n 1, 0)] (pc' := 32) (lv' := [(0, .ref 76), (1, .int v1), (2, .int v2), (3, .int v3), (4, .int v4)]) (st' := [.int v1, .int (fcG σ 54 v4), .ref 76, .int v3]) (σ' := σ) (by decide +kernel) rfl rfl rfl ?_
    refine fhW.callv hΓ mvX1_firstKnown ml_1_101 (t := 76) (ci := 1) (av := [.int (fcG σ 54 v4), .int v1]) (rest := [.int v3]) (r := (some (.int (f_X1_firstKnown (fcG σ 54 v4) v1 σ)))) (σ' := σ) (T_X1_firstKnown (E := fhEn Γ) (d := fhD Γ - 1) hE (by omega) (fcG σ 54 v4) v1 σ) (by omega) (by decide +kernel) rfl rfl rfl (Nat.le_of_ble_eq_true rfl) rfl ?_
    show fhW fhYF Γ 35 [(0, .ref 76), (1, .int v1), (2, .int v2), (3, .int v3), (4, .int v4)] [.int (f_X1_firstKnown (fcG σ 54 v4) v1 σ), .int v3] σ
    refine fhW.blk fhPF fhLL hΓ [(.iload_n 2, 0)] (pc' := 36) (lv' := [(0, .ref 76), (1, .int v1), (2, .int v2), (3, .int v3), (4, .int v4)]) (st' := [.int v2, .int (f_X1_firstKnown (fcG σ 54 v4) v1 σ), .int v3]) (σ' := σ) (by decide +kernel) rfl rfl rfl ?_
    refine fhW.i_gt hΓ (tgt := 43) (show fhbk _ _ (.if_icmp .gt (7)) _ = true by decide +kernel) (fun hc => ?_) (fun hc => ?_)
    · simp only [if_pos hc] at h
      refine fhW.blk fhPF fhLL hΓ [(.iconst 0, 0)] (pc' := 44) (lv' := [(0, .ref 76), (1, .int v1), (2, .int v2), (3, .int v3), (4, .int v4)]) (st' := [.int (0 : Int32), .int v3]) (σ' := σ) (by decide +kernel) rfl rfl rfl ?_
      refine fhW.sub (lv' := [(0, .ref 76), (1, .int v1), (2, .int v2), (4, .int v4)]) [0, 1, 2, 4] rfl ?_
      exact L_X1_countKnowing_44 hE hΓ hd v1 v2 v4 (0 : Int32) v3 σ _ h hk
    · simp only [if_neg hc] at h
      refine fhW.blk fhPF fhLL hΓ [(.iconst 1, 1)] (pc' := 40) (lv' := [(0, .ref 76), (1, .int v1), (2, .int v2), (3, .int v3), (4, .int v4)]) (st' := [.int (1 : Int32), .int v3]) (σ' := σ) (by decide +kernel) rfl rfl rfl ?_
      refine fhW.goto hΓ (off := 4) (tgt := 44) (by decide +kernel) ?_
      refine fhW.sub (lv' := [(0, .ref 76), (1, .int v1), (2, .int v2), (4, .int v4)]) [0, 1, 2, 4] rfl ?_
      exact L_X1_countKnowing_44 hE hΓ hd v1 v2 v4 (1 : Int32) v3 σ _ h hk
set_option maxRecDepth 100000 in
set_option maxHeartbeats 4000000 in
theorem L_X1_countKnowing_E {Γ : fhX} (hE : fhEok fhYF (fhEn Γ)) (hΓ : fhOk fhYF 1 cX1_countKnowing 5 (some .int) Γ) (hd : 2 ≤ fhD Γ) (v1 : Int32) (v2 : Int32)  (σ : fhM) (o : Int32) (h : f_X1_countKnowing v1 v2 σ = some o) (hk : (fun o => fhRet Γ (some (.int o)) σ) o) : fhW fhYF Γ 0 [(0, .ref 76), (1, .int v1), (2, .int v2)] [] σ := by
  unfold f_X1_countKnowing at h
  refine fhW.blk fhPF fhLL hΓ [(.iconst 0, 0), (.istore_n 3, 0), (.iconst 0, 0), (.istore 4, 0)] (pc' := 5) (lv' := [(4, .int (0 : Int32)), (3, .int (0 : Int32)), (0, .ref 76), (1, .int v1), (2, .int v2)]) (st' := []) (σ' := σ) (by decide +kernel) rfl rfl rfl ?_
  refine fhW.sub (lv' := [(0, .ref 76), (1, .int v1), (2, .int v2), (3, .int (0 : Int32)), (4, .int (0 : Int32))]) [2, 3, 4, 1, 0] rfl ?_
  exact fhlp_ok (W := (fun x => fhW fhYF Γ 5 [(0, .ref 76), (1, .int v1), (2, .int v2), (3, .int x.1), (4, .int x.2)] [] σ)) (B := (fun o => fhRet Γ (some (.int o)) σ)) (fun x o h hk => L_X1_countKnowing_5 hE hΓ hd v1 v2 x.1 x.2 σ o h hk) ((0 : Int32), (0 : Int32)) _ h hk
set_option maxRecDepth 100000 in
theorem T_X1_countKnowing {E : fhE} {d : Nat} (hE : fhEok fhYF E) (hd : 2 ≤ d) (v1 : Int32) (v2 : Int32)  (σ : fhM) {o : Int32} (h : f_X1_countKnowing v1 v2 σ = some o) : fhC fhYF E d miX1_countKnowing [.ref 76, .int v1, .int v2] σ (some (.int o)) σ := by
  refine fhC.of (y := yX1_countKnowing) (cc := cX1_countKnowing) (nL := 5) (ret := (some .int)) 1 rfl (by decide +kernel) (Nat.le_of_ble_eq_true rfl) ?_
  intro Γ hΓ hR hD hEn
  subst hD; subst hEn
  exact L_X1_countKnowing_E hE hΓ hd v1 v2  σ _ h hR
set_option maxRecDepth 100000 in
set_option maxHeartbeats 4000000 in
theorem L_X11_odds_E {Γ : fhX} (hE : fhEok fhYF (fhEn Γ)) (hΓ : fhOk fhYF 11 cX11_odds 3 (some .int) Γ) (hd : 5 ≤ fhD Γ) (v1 : Int32) (v2 : Int32)  (σ : fhM) (o : Int32 × fhM) (h : f_X11_odds v1 v2 σ = some o) (hk : (fun o => fhRet Γ (some (.int o.1)) o.2) o) : fhW fhYF Γ 0 [(0, .ref 0), (1, .int v1), (2, .int v2)] [] σ := by
  unfold f_X11_odds at h
  refine fhW.blk fhPF fhLL hΓ [(.aload_n 0, 0), (.iload_n 1, 0)] (pc' := 2) (lv' := [(0, .ref 0), (1, .int v1), (2, .int v2)]) (st' := [.int v1, .ref 0]) (σ' := σ) (by decide +kernel) rfl rfl rfl ?_
  refine fhW.callv hΓ mvX11_isGuest ml_11_212 (t := 0) (ci := 11) (av := [.int v1]) (rest := []) (r := (some (.int (fhb (f_X11_isGuest v1 σ))))) (σ' := σ) (T_X11_isGuest (E := fhEn Γ) (d := fhD Γ - 1) hE (by omega) v1 σ) (by omega) (by decide +kernel) rfl rfl rfl (Nat.le_of_ble_eq_true rfl) rfl ?_
  show fhW fhYF Γ 5 [(0, .ref 0), (1, .int v1), (2, .int v2)] [.int (fhb (f_X11_isGuest v1 σ))] σ
  refine fhW.b_eq hΓ (tgt := 18) (show fhbk _ _ (.ifCond .eq (13)) _ = true by decide +kernel) (fun hc => ?_) (fun hc => ?_)
  · rw [if_neg hc] at h
    refine fhW.blk fhPF fhLL hΓ [(.iconst (-1), -1)] (pc' := 19) (lv' := [(0, .ref 0), (1, .int v1), (2, .int v2)]) (st' := [.int (-1 : Int32)]) (σ' := σ) (by decide +kernel) rfl rfl rfl ?_
    have e9 := Option.some.inj h
    subst e9
    exact fhW.iret hΓ (by decide +kernel) hk
  · rw [if_pos hc] at h
    refine fhW.blk fhPF fhLL hΓ [(.iload_n 2, 0)] (pc' := 9) (lv' := [(0, .ref 0), (1, .int v1), (2, .int v2)]) (st' := [.int v2]) (σ' := σ) (by decide +kernel) rfl rfl rfl ?_
    refine fhW.z_lt hΓ (tgt := 18) (show fhbk _ _ (.ifCond .lt (9)) _ = true by decide +kernel) (fun hc => ?_) (fun hc => ?_)
    · rw [if_pos hc] at h
      refine fhW.blk fhPF fhLL hΓ [(.iconst (-1), -1)] (pc' := 19) (lv' := [(0, .ref 0), (1, .int v1), (2, .int v2)]) (st' := [.int (-1 : Int32)]) (σ' := σ) (by decide +kernel) rfl rfl rfl ?_
      have e9 := Option.some.inj h
      subst e9
      exact fhW.iret hΓ (by decide +kernel) hk
    · rw [if_neg hc] at h
      refine fhW.blk fhPF fhLL hΓ [(.iload_n 2, 0), (.bipush 20, 20)] (pc' := 15) (lv' := [(0, .ref 0), (1, .int v1), (2, .int v2)]) (st' := [.int (20 : Int32), .int v2]) (σ' := σ) (by decide +kernel) rfl rfl rfl ?_
      refine fhW.i_le hΓ (tgt := 20) (show fhbk _ _ (.if_icmp .le (5)) _ = true by decide +kernel) (fun hc => ?_) (fun hc => ?_)
      · rw [if_pos hc] at h
        refine fhW.blk fhPF fhLL hΓ [(.aload_n 0, 0), (.getfield 79, 0)] (pc' := 24) (lv' := [(0, .ref 0), (1, .int v1), (2, .int v2)]) (st' := [.ref 76]) (σ' := σ) (by decide +kernel) rfl rfl rfl ?_
        obtain ⟨q1, hb1, h⟩ := Option.bind_eq_some_iff.mp h
        refine fhW.callv hΓ mvX1_prepare ml_11_296 (t := 76) (ci := 1) (av := []) (rest := []) (r := none) (σ' := q1) (T_X1_prepare (E := fhEn Γ) (d := fhD Γ - 1) hE (by omega) σ hb1) (by omega) (by decide +kernel) rfl rfl rfl (Nat.le_of_ble_eq_true rfl) rfl ?_
        show fhW fhYF Γ 27 [(0, .ref 0), (1, .int v1), (2, .int v2)] [] q1
        refine fhW.blk fhPF fhLL hΓ [(.aload_n 0, 0), (.getfield 79, 0), (.iload_n 1, 0), (.iload_n 2, 0)] (pc' := 33) (lv' := [(0, .ref 0), (1, .int v1), (2, .int v2)]) (st' := [.int v2, .int v1, .ref 76]) (σ' := q1) (by decide +kernel) rfl rfl rfl ?_
        obtain ⟨q2, hb2, h⟩ := Option.bind_eq_some_iff.mp h
        refine fhW.callv hΓ mvX1_countKnowing ml_11_304 (t := 76) (ci := 1) (av := [.int v1, .int v2]) (rest := []) (r := (some (.int q2))) (σ' := q1) (T_X1_countKnowing (E := fhEn Γ) (d := fhD Γ - 1) hE (by omega) v1 v2 q1 hb2) (by omega) (by decide +kernel) rfl rfl rfl (Nat.le_of_ble_eq_true rfl) rfl ?_
        show fhW fhYF Γ 36 [(0, .ref 0), (1, .int v1), (2, .int v2)] [.int q2] q1
        have e9 := Option.some.inj h
        subst e9
        exact fhW.iret hΓ (by decide +kernel) hk
      · rw [if_neg hc] at h
        refine fhW.blk fhPF fhLL hΓ [(.iconst (-1), -1)] (pc' := 19) (lv' := [(0, .ref 0), (1, .int v1), (2, .int v2)]) (st' := [.int (-1 : Int32)]) (σ' := σ) (by decide +kernel) rfl rfl rfl ?_
        have e9 := Option.some.inj h
        subst e9
        exact fhW.iret hΓ (by decide +kernel) hk
set_option maxRecDepth 100000 in
theorem T_X11_odds {E : fhE} {d : Nat} (hE : fhEok fhYF E) (hd : 5 ≤ d) (v1 : Int32) (v2 : Int32)  (σ : fhM) {o : Int32 × fhM} (h : f_X11_odds v1 v2 σ = some o) : fhC fhYF E d miX11_odds [.ref 0, .int v1, .int v2] σ (some (.int o.1)) o.2 := by
  refine fhC.of (y := yX11_odds) (cc := cX11_odds) (nL := 3) (ret := (some .int)) 11 rfl (by decide +kernel) (Nat.le_of_ble_eq_true rfl) ?_
  intro Γ hΓ hR hD hEn
  subst hD; subst hEn
  exact L_X11_odds_E hE hΓ hd v1 v2  σ _ h hR
set_option maxRecDepth 100000 in
set_option maxHeartbeats 4000000 in
theorem L_X1_listen_85 {Γ : fhX} (hE : fhEok fhYF (fhEn Γ)) (hΓ : fhOk fhYF 1 cX1_listen 5 (some .boolean) Γ) (hd : 1 ≤ fhD Γ) (v1 : Nat) (v2 : Int32) (v3 : Int32) (v4 : Int32) (hv1 : fhiC v1 = true) (σ : fhM) (o : (Int32 × fhM) ⊕ (Bool × fhM)) (h : f_X1_listen_85 v1 v2 v3 v4 σ = some o) (hk : (fhK (fun x => fhW fhYF Γ 85 [(0, .ref 76), (1, .ref v1), (2, .int v2), (3, .int v3), (4, .int x.1)] [] x.2) (fun o => fhRet Γ (some (.int (fhb o.1))) o.2)) o) : fhW fhYF Γ 85 [(0, .ref 76), (1, .ref v1), (2, .int v2), (3, .int v3), (4, .int v4)] [] σ := by
  unfold f_X1_listen_85 at h
  refine fhW.blk fhPF fhLL hΓ [(.iload 4, 0), (.iload_n 2, 0)] (pc' := 88) (lv' := [(0, .ref 76), (1, .ref v1), (2, .int v2), (3, .int v3), (4, .int v4)]) (st' := [.int v2, .int v4]) (σ' := σ) (by decide +kernel) rfl rfl rfl ?_
  refine fhW.i_ge hΓ (tgt := 112) (show fhbk _ _ (.if_icmp .ge (24)) _ = true by decide +kernel) (fun hc => ?_) (fun hc => ?_)
  · rw [if_pos hc] at h
    refine fhW.blk fhPF fhLL hΓ [(.aload_n 0, 0), (.iload_n 3, 0), (.putfield 49, 0), (.iconst 1, 1)] (pc' := 118) (lv' := [(0, .ref 76), (1, .ref v1), (2, .int v2), (3, .int v3), (4, .int v4)]) (st' := [.int (1 : Int32)]) (σ' := (fhI σ 76 13 v3)) (by decide +kernel) rfl rfl rfl ?_
    have e9 := Option.some.inj h
    subst e9
    exact fhW.zret (v := true) hΓ (by decide +kernel) hk
  · rw [if_neg hc] at h
    refine fhW.blk fhPF fhLL hΓ [(.aload_n 0, 0), (.getfield 35, 0), (.iload 4, 0), (.aload_n 1, 0), (.iload 4, 0)] (pc' := 100) (lv' := [(0, .ref 76), (1, .ref v1), (2, .int v2), (3, .int v3), (4, .int v4)]) (st' := [.int v4, .ref v1, .int v4, .ref 89]) (σ' := σ) (by decide +kernel) rfl rfl rfl ?_
    refine fhW.callv hΓ mvX2_get ml_1_70 (t := v1) (ci := 2) (av := [.int v4]) (rest := [.int v4, .ref 89]) (r := (some (.int (fcG σ v1 v4)))) (σ' := σ) (T_X2_get (E := fhEn Γ) (d := fhD Γ - 1) hE (by omega) v1 v4 hv1 σ) (by omega) (by decide +kernel) rfl (fhiC_g hv1) rfl (Nat.le_of_ble_eq_true rfl) rfl ?_
    show fhW fhYF Γ 103 [(0, .ref 76), (1, .ref v1), (2, .int v2), (3, .int v3), (4, .int v4)] [.int (fcG σ v1 v4), .int v4, .ref 89] σ
    refine fhW.callv hΓ mvX2_put ml_1_74 (t := 89) (ci := 2) (av := [.int v4, .int (fcG σ v1 v4)]) (rest := []) (r := none) (σ' := (fcP σ 89 v4 (fcG σ v1 v4))) (T_X2_put (E := fhEn Γ) (d := fhD Γ - 1) hE (by omega) 89 v4 (fcG σ v1 v4) rfl σ) (by omega) (by decide +kernel) rfl rfl rfl (Nat.le_of_ble_eq_true rfl) rfl ?_
    show fhW fhYF Γ 106 [(0, .ref 76), (1, .ref v1), (2, .int v2), (3, .int v3), (4, .int v4)] [] (fcP σ 89 v4 (fcG σ v1 v4))
    refine fhW.blk fhPF fhLL hΓ [(.iinc 4 1, 1)] (pc' := 109) (lv' := [(4, .int (v4 + (1 : Int32))), (0, .ref 76), (1, .ref v1), (2, .int v2), (3, .int v3)]) (st' := []) (σ' := (fcP σ 89 v4 (fcG σ v1 v4))) (by decide +kernel) rfl rfl rfl ?_
    refine fhW.goto hΓ (off := (-24)) (tgt := 85) (by decide +kernel) ?_
    refine fhW.sub (lv' := [(0, .ref 76), (1, .ref v1), (2, .int v2), (3, .int v3), (4, .int (v4 + (1 : Int32)))]) [1, 2, 3, 4, 0] rfl ?_
    have e9 := Option.some.inj h
    subst e9
    exact hk
set_option maxRecDepth 100000 in
set_option maxHeartbeats 4000000 in
theorem L_X1_listen_27 {Γ : fhX} (hE : fhEok fhYF (fhEn Γ)) (hΓ : fhOk fhYF 1 cX1_listen 5 (some .boolean) Γ) (hd : 1 ≤ fhD Γ) (v1 : Nat) (v2 : Int32) (v3 : Int32) (v4 : Int32) (hv1 : fhiC v1 = true) (σ : fhM) (o : (Int32) ⊕ (Bool × fhM)) (h : f_X1_listen_27 v1 v2 v3 v4 σ = some o) (hk : (fhK (fun x => fhW fhYF Γ 27 [(0, .ref 76), (1, .ref v1), (2, .int v2), (3, .int v3), (4, .int x)] [] σ) (fun o => fhRet Γ (some (.int (fhb o.1))) o.2)) o) : fhW fhYF Γ 27 [(0, .ref 76), (1, .ref v1), (2, .int v2), (3, .int v3), (4, .int v4)] [] σ := by
  unfold f_X1_listen_27 at h
  refine fhW.blk fhPF fhLL hΓ [(.iload 4, 0), (.iload_n 2, 0)] (pc' := 30) (lv' := [(0, .ref 76), (1, .ref v1), (2, .int v2), (3, .int v3), (4, .int v4)]) (st' := [.int v2, .int v4]) (σ' := σ) (by decide +kernel) rfl rfl rfl ?_
  refine fhW.i_ge hΓ (tgt := 82) (show fhbk _ _ (.if_icmp .ge (52)) _ = true by decide +kernel) (fun hc => ?_) (fun hc => ?_)
  · rw [if_pos hc] at h
    refine fhW.blk fhPF fhLL hΓ [(.iconst 0, 0), (.istore 4, 0)] (pc' := 85) (lv' := [(4, .int (0 : Int32)), (0, .ref 76), (1, .ref v1), (2, .int v2), (3, .int v3)]) (st' := []) (σ' := σ) (by decide +kernel) rfl rfl rfl ?_
    refine fhW.sub (lv' := [(0, .ref 76), (1, .ref v1), (2, .int v2), (3, .int v3), (4, .int (0 : Int32))]) [1, 2, 3, 4, 0] rfl ?_
    obtain ⟨z1, hz, e1⟩ := Option.map_eq_some_iff.mp h
    clear h
    subst e1
    have h := hz
    have hk : (fun o => fhRet Γ (some (.int (fhb o.1))) o.2) z1 := hk
    exact fhlp_ok (W := (fun x => fhW fhYF Γ 85 [(0, .ref 76), (1, .ref v1), (2, .int v2), (3, .int v3), (4, .int x.1)] [] x.2)) (B := (fun o => fhRet Γ (some (.int (fhb o.1))) o.2)) (fun x o h hk => L_X1_listen_85 hE hΓ hd v1 v2 v3 x.1 hv1 x.2 o h hk) ((0 : Int32), σ) _ h hk
  · rw [if_neg hc] at h
    refine fhW.blk fhPF fhLL hΓ [(.aload_n 1, 0), (.iload 4, 0)] (pc' := 36) (lv' := [(0, .ref 76), (1, .ref v1), (2, .int v2), (3, .int v3), (4, .int v4)]) (st' := [.int v4, .ref v1]) (σ' := σ) (by decide +kernel) rfl rfl rfl ?_
    refine fhW.callv hΓ mvX2_get ml_1_70 (t := v1) (ci := 2) (av := [.int v4]) (rest := []) (r := (some (.int (fcG σ v1 v4)))) (σ' := σ) (T_X2_get (E := fhEn Γ) (d := fhD Γ - 1) hE (by omega) v1 v4 hv1 σ) (by omega) (by decide +kernel) rfl (fhiC_g hv1) rfl (Nat.le_of_ble_eq_true rfl) rfl ?_
    show fhW fhYF Γ 39 [(0, .ref 76), (1, .ref v1), (2, .int v2), (3, .int v3), (4, .int v4)] [.int (fcG σ v1 v4)] σ
    refine fhW.blk fhPF fhLL hΓ [(.bipush 16, 16)] (pc' := 41) (lv' := [(0, .ref 76), (1, .ref v1), (2, .int v2), (3, .int v3), (4, .int v4)]) (st' := [.int (16 : Int32), .int (fcG σ v1 v4)]) (σ' := σ) (by decide +kernel) rfl rfl rfl ?_
    refine fhW.i_ge hΓ (tgt := 74) (show fhbk _ _ (.if_icmp .ge (33)) _ = true by decide +kernel) (fun hc => ?_) (fun hc => ?_)
    · rw [if_pos hc] at h
      refine fhW.blk fhPF fhLL hΓ [(.iconst 0, 0)] (pc' := 75) (lv' := [(0, .ref 76), (1, .ref v1), (2, .int v2), (3, .int v3), (4, .int v4)]) (st' := [.int (0 : Int32)]) (σ' := σ) (by decide +kernel) rfl rfl rfl ?_
      have e9 := Option.some.inj h
      subst e9
      exact fhW.zret (v := false) hΓ (by decide +kernel) hk
    · rw [if_neg hc] at h
      refine fhW.blk fhPF fhLL hΓ [(.aload_n 1, 0), (.iload 4, 0), (.iconst 1, 1), (.iadd, 0)] (pc' := 49) (lv' := [(0, .ref 76), (1, .ref v1), (2, .int v2), (3, .int v3), (4, .int v4)]) (st' := [.int (v4 + (1 : Int32)), .ref v1]) (σ' := σ) (by decide +kernel) rfl rfl rfl ?_
      refine fhW.callv hΓ mvX2_get ml_1_70 (t := v1) (ci := 2) (av := [.int (v4 + (1 : Int32))]) (rest := []) (r := (some (.int (fcG σ v1 (v4 + (1 : Int32)))))) (σ' := σ) (T_X2_get (E := fhEn Γ) (d := fhD Γ - 1) hE (by omega) v1 (v4 + (1 : Int32)) hv1 σ) (by omega) (by decide +kernel) rfl (fhiC_g hv1) rfl (Nat.le_of_ble_eq_true rfl) rfl ?_
      show fhW fhYF Γ 52 [(0, .ref 76), (1, .ref v1), (2, .int v2), (3, .int v3), (4, .int v4)] [.int (fcG σ v1 (v4 + (1 : Int32)))] σ
      refine fhW.blk fhPF fhLL hΓ [(.aload_n 0, 0), (.getfield 41, 0), (.getfield 92, 0)] (pc' := 59) (lv' := [(0, .ref 76), (1, .ref v1), (2, .int v2), (3, .int v3), (4, .int v4)]) (st' := [.int (σ.1 39 9), .int (fcG σ v1 (v4 + (1 : Int32)))]) (σ' := σ) (by decide +kernel) rfl rfl rfl ?_
      refine fhW.i_ge hΓ (tgt := 74) (show fhbk _ _ (.if_icmp .ge (15)) _ = true by decide +kernel) (fun hc => ?_) (fun hc => ?_)
      · rw [if_pos hc] at h
        refine fhW.blk fhPF fhLL hΓ [(.iconst 0, 0)] (pc' := 75) (lv' := [(0, .ref 76), (1, .ref v1), (2, .int v2), (3, .int v3), (4, .int v4)]) (st' := [.int (0 : Int32)]) (σ' := σ) (by decide +kernel) rfl rfl rfl ?_
        have e9 := Option.some.inj h
        subst e9
        exact fhW.zret (v := false) hΓ (by decide +kernel) hk
      · rw [if_neg hc] at h
        refine fhW.blk fhPF fhLL hΓ [(.aload_n 1, 0), (.iload 4, 0), (.iconst 2, 2), (.iadd, 0)] (pc' := 67) (lv' := [(0, .ref 76), (1, .ref v1), (2, .int v2), (3, .int v3), (4, .int v4)]) (st' := [.int (v4 + (2 : Int32)), .ref v1]) (σ' := σ) (by decide +kernel) rfl rfl rfl ?_
        refine fhW.callv hΓ mvX2_get ml_1_70 (t := v1) (ci := 2) (av := [.int (v4 + (2 : Int32))]) (rest := []) (r := (some (.int (fcG σ v1 (v4 + (2 : Int32)))))) (σ' := σ) (T_X2_get (E := fhEn Γ) (d := fhD Γ - 1) hE (by omega) v1 (v4 + (2 : Int32)) hv1 σ) (by omega) (by decide +kernel) rfl (fhiC_g hv1) rfl (Nat.le_of_ble_eq_true rfl) rfl ?_
        show fhW fhYF Γ 70 [(0, .ref 76), (1, .ref v1), (2, .int v2), (3, .int v3), (4, .int v4)] [.int (fcG σ v1 (v4 + (2 : Int32)))] σ
        refine fhW.blk fhPF fhLL hΓ [(.iconst 1, 1)] (pc' := 71) (lv' := [(0, .ref 76), (1, .ref v1), (2, .int v2), (3, .int v3), (4, .int v4)]) (st' := [.int (1 : Int32), .int (fcG σ v1 (v4 + (2 : Int32)))]) (σ' := σ) (by decide +kernel) rfl rfl rfl ?_
        refine fhW.i_le hΓ (tgt := 76) (show fhbk _ _ (.if_icmp .le (5)) _ = true by decide +kernel) (fun hc => ?_) (fun hc => ?_)
        · rw [if_pos hc] at h
          refine fhW.blk fhPF fhLL hΓ [(.iinc 4 3, 3)] (pc' := 79) (lv' := [(4, .int (v4 + (3 : Int32))), (0, .ref 76), (1, .ref v1), (2, .int v2), (3, .int v3)]) (st' := []) (σ' := σ) (by decide +kernel) rfl rfl rfl ?_
          refine fhW.goto hΓ (off := (-52)) (tgt := 27) (by decide +kernel) ?_
          refine fhW.sub (lv' := [(0, .ref 76), (1, .ref v1), (2, .int v2), (3, .int v3), (4, .int (v4 + (3 : Int32)))]) [1, 2, 3, 4, 0] rfl ?_
          have e9 := Option.some.inj h
          subst e9
          exact hk
        · rw [if_neg hc] at h
          refine fhW.blk fhPF fhLL hΓ [(.iconst 0, 0)] (pc' := 75) (lv' := [(0, .ref 76), (1, .ref v1), (2, .int v2), (3, .int v3), (4, .int v4)]) (st' := [.int (0 : Int32)]) (σ' := σ) (by decide +kernel) rfl rfl rfl ?_
          have e9 := Option.some.inj h
          subst e9
          exact fhW.zret (v := false) hΓ (by decide +kernel) hk
set_option maxRecDepth 100000 in
set_option maxHeartbeats 4000000 in
theorem L_X1_listen_E {Γ : fhX} (hE : fhEok fhYF (fhEn Γ)) (hΓ : fhOk fhYF 1 cX1_listen 5 (some .boolean) Γ) (hd : 1 ≤ fhD Γ) (v1 : Nat) (v2 : Int32) (hv1 : fhiC v1 = true) (σ : fhM) (o : Bool × fhM) (h : f_X1_listen v1 v2 σ = some o) (hk : (fun o => fhRet Γ (some (.int (fhb o.1))) o.2) o) : fhW fhYF Γ 0 [(0, .ref 76), (1, .ref v1), (2, .int v2)] [] σ := by
  unfold f_X1_listen at h
  refine fhW.blk fhPF fhLL hΓ [(.iload_n 2, 0), (.iconst 3, 3), (.idiv, 0), (.istore_n 3, 0), (.iload_n 3, 0), (.iconst 3, 3), (.imul, 0), (.iload_n 2, 0)] (pc' := 8) (lv' := [(3, .int (v2 / (3 : Int32))), (0, .ref 76), (1, .ref v1), (2, .int v2)]) (st' := [.int v2, .int ((v2 / (3 : Int32)) * (3 : Int32))]) (σ' := σ) (by decide +kernel) rfl rfl rfl ?_
  refine fhW.i_ne hΓ (tgt := 22) (show fhbk _ _ (.if_icmp .ne (14)) _ = true by decide +kernel) (fun hc => ?_) (fun hc => ?_)
  · rw [if_neg hc] at h
    refine fhW.blk fhPF fhLL hΓ [(.iconst 0, 0)] (pc' := 23) (lv' := [(3, .int (v2 / (3 : Int32))), (0, .ref 76), (1, .ref v1), (2, .int v2)]) (st' := [.int (0 : Int32)]) (σ' := σ) (by decide +kernel) rfl rfl rfl ?_
    have e9 := Option.some.inj h
    subst e9
    exact fhW.zret (v := false) hΓ (by decide +kernel) hk
  · rw [if_pos hc] at h
    refine fhW.blk fhPF fhLL hΓ [(.iload_n 3, 0), (.iconst 1, 1)] (pc' := 13) (lv' := [(3, .int (v2 / (3 : Int32))), (0, .ref 76), (1, .ref v1), (2, .int v2)]) (st' := [.int (1 : Int32), .int (v2 / (3 : Int32))]) (σ' := σ) (by decide +kernel) rfl rfl rfl ?_
    refine fhW.i_lt hΓ (tgt := 22) (show fhbk _ _ (.if_icmp .lt (9)) _ = true by decide +kernel) (fun hc => ?_) (fun hc => ?_)
    · rw [if_pos hc] at h
      refine fhW.blk fhPF fhLL hΓ [(.iconst 0, 0)] (pc' := 23) (lv' := [(3, .int (v2 / (3 : Int32))), (0, .ref 76), (1, .ref v1), (2, .int v2)]) (st' := [.int (0 : Int32)]) (σ' := σ) (by decide +kernel) rfl rfl rfl ?_
      have e9 := Option.some.inj h
      subst e9
      exact fhW.zret (v := false) hΓ (by decide +kernel) hk
    · rw [if_neg hc] at h
      refine fhW.blk fhPF fhLL hΓ [(.iload_n 3, 0), (.bipush 16, 16)] (pc' := 19) (lv' := [(3, .int (v2 / (3 : Int32))), (0, .ref 76), (1, .ref v1), (2, .int v2)]) (st' := [.int (16 : Int32), .int (v2 / (3 : Int32))]) (σ' := σ) (by decide +kernel) rfl rfl rfl ?_
      refine fhW.i_le hΓ (tgt := 24) (show fhbk _ _ (.if_icmp .le (5)) _ = true by decide +kernel) (fun hc => ?_) (fun hc => ?_)
      · rw [if_pos hc] at h
        refine fhW.blk fhPF fhLL hΓ [(.iconst 0, 0), (.istore 4, 0)] (pc' := 27) (lv' := [(4, .int (0 : Int32)), (3, .int (v2 / (3 : Int32))), (0, .ref 76), (1, .ref v1), (2, .int v2)]) (st' := []) (σ' := σ) (by decide +kernel) rfl rfl rfl ?_
        refine fhW.sub (lv' := [(0, .ref 76), (1, .ref v1), (2, .int v2), (3, .int (v2 / (3 : Int32))), (4, .int (0 : Int32))]) [2, 3, 4, 1, 0] rfl ?_
        exact fhlp_ok (W := (fun x => fhW fhYF Γ 27 [(0, .ref 76), (1, .ref v1), (2, .int v2), (3, .int (v2 / (3 : Int32))), (4, .int x)] [] σ)) (B := (fun o => fhRet Γ (some (.int (fhb o.1))) o.2)) (fun x o h hk => L_X1_listen_27 hE hΓ hd v1 v2 (v2 / (3 : Int32)) x hv1 σ o h hk) (0 : Int32) _ h hk
      · rw [if_neg hc] at h
        refine fhW.blk fhPF fhLL hΓ [(.iconst 0, 0)] (pc' := 23) (lv' := [(3, .int (v2 / (3 : Int32))), (0, .ref 76), (1, .ref v1), (2, .int v2)]) (st' := [.int (0 : Int32)]) (σ' := σ) (by decide +kernel) rfl rfl rfl ?_
        have e9 := Option.some.inj h
        subst e9
        exact fhW.zret (v := false) hΓ (by decide +kernel) hk
set_option maxRecDepth 100000 in
theorem T_X1_listen {E : fhE} {d : Nat} (hE : fhEok fhYF E) (hd : 1 ≤ d) (v1 : Nat) (v2 : Int32) (hv1 : fhiC v1 = true) (σ : fhM) {o : Bool × fhM} (h : f_X1_listen v1 v2 σ = some o) : fhC fhYF E d miX1_listen [.ref 76, .ref v1, .int v2] σ (some (.int (fhb o.1))) o.2 := by
  refine fhC.of (y := yX1_listen) (cc := cX1_listen) (nL := 5) (ret := (some .boolean)) 1 rfl (by decide +kernel) (Nat.le_of_ble_eq_true rfl) ?_
  intro Γ hΓ hR hD hEn
  subst hD; subst hEn
  exact L_X1_listen_E hE hΓ hd v1 v2 hv1 σ _ h hR
set_option maxRecDepth 100000 in
set_option maxHeartbeats 4000000 in
theorem L_X11_hear_E {Γ : fhX} (hE : fhEok fhYF (fhEn Γ)) (hΓ : fhOk fhYF 11 cX11_hear 2 (some .int) Γ) (hd : 2 ≤ fhD Γ)   (σ : fhM) (o : Int32 × fhM) (h : f_X11_hear σ = some o) (hk : (fun o => fhRet Γ (some (.int o.1)) o.2) o) : fhW fhYF Γ 0 [(0, .ref 0)] [] σ := by
  unfold f_X11_hear at h
  refine fhW.blk fhPF fhLL hΓ [(.aload_n 0, 0)] (pc' := 1) (lv' := [(0, .ref 0)]) (st' := [.ref 0]) (σ' := σ) (by decide +kernel) rfl rfl rfl ?_
  refine fhW.callv hΓ mvX11_takeTape ml_11_120 (t := 0) (ci := 11) (av := []) (rest := []) (r := (some (.int (f_X11_takeTape σ).1))) (σ' := (f_X11_takeTape σ).2) (T_X11_takeTape (E := fhEn Γ) (d := fhD Γ - 1) hE (by omega) σ) (by omega) (by decide +kernel) rfl rfl rfl (Nat.le_of_ble_eq_true rfl) rfl ?_
  show fhW fhYF Γ 4 [(0, .ref 0)] [.int (f_X11_takeTape σ).1] (f_X11_takeTape σ).2
  obtain ⟨q1, e1, h⟩ := fhlet_elim h
  rw [← e1]
  refine fhW.blk fhPF fhLL hΓ [(.istore_n 1, 0), (.aload_n 0, 0), (.getfield 79, 0), (.aload_n 0, 0), (.getfield 14, 0), (.iload_n 1, 0)] (pc' := 14) (lv' := [(1, .int q1.1), (0, .ref 0)]) (st' := [.int q1.1, .ref 1, .ref 76]) (σ' := q1.2) (by decide +kernel) rfl rfl rfl ?_
  obtain ⟨q2, hb1, h⟩ := Option.bind_eq_some_iff.mp h
  refine fhW.callv hΓ mvX1_listen ml_11_307 (t := 76) (ci := 1) (av := [.ref 1, .int q1.1]) (rest := []) (r := (some (.int (fhb q2.1)))) (σ' := q2.2) (T_X1_listen (E := fhEn Γ) (d := fhD Γ - 1) hE (by omega) 1 q1.1 rfl q1.2 hb1) (by omega) (by decide +kernel) rfl rfl rfl (Nat.le_of_ble_eq_true rfl) rfl ?_
  show fhW fhYF Γ 17 [(1, .int q1.1), (0, .ref 0)] [.int (fhb q2.1)] q2.2
  refine fhW.b_ne hΓ (tgt := 26) (show fhbk _ _ (.ifCond .ne (9)) _ = true by decide +kernel) (fun hc => ?_) (fun hc => ?_)
  · rw [if_pos hc] at h
    refine fhW.blk fhPF fhLL hΓ [(.aload_n 0, 0), (.getfield 79, 0), (.getfield 206, 0)] (pc' := 33) (lv' := [(1, .int q1.1), (0, .ref 0)]) (st' := [.int (q2.2.1 76 13)]) (σ' := q2.2) (by decide +kernel) rfl rfl rfl ?_
    have e9 := Option.some.inj h
    subst e9
    exact fhW.iret hΓ (by decide +kernel) hk
  · rw [if_neg hc] at h
    refine fhW.blk fhPF fhLL hΓ [(.aload_n 0, 0), (.iconst 1, 1)] (pc' := 22) (lv' := [(1, .int q1.1), (0, .ref 0)]) (st' := [.int (1 : Int32), .ref 0]) (σ' := q2.2) (by decide +kernel) rfl rfl rfl ?_
    refine fhW.callv hΓ mvX11_refuse ml_11_106 (t := 0) (ci := 11) (av := [.int (1 : Int32)]) (rest := []) (r := (some (.int (f_X11_refuse (1 : Int32) q2.2).1))) (σ' := (f_X11_refuse (1 : Int32) q2.2).2) (T_X11_refuse (E := fhEn Γ) (d := fhD Γ - 1) hE (by omega) (1 : Int32) q2.2) (by omega) (by decide +kernel) rfl rfl rfl (Nat.le_of_ble_eq_true rfl) rfl ?_
    show fhW fhYF Γ 25 [(1, .int q1.1), (0, .ref 0)] [.int (f_X11_refuse (1 : Int32) q2.2).1] (f_X11_refuse (1 : Int32) q2.2).2
    obtain ⟨q3, e2, h⟩ := fhlet_elim h
    rw [← e2]
    have e9 := Option.some.inj h
    subst e9
    exact fhW.iret hΓ (by decide +kernel) hk
set_option maxRecDepth 100000 in
theorem T_X11_hear {E : fhE} {d : Nat} (hE : fhEok fhYF E) (hd : 2 ≤ d)   (σ : fhM) {o : Int32 × fhM} (h : f_X11_hear σ = some o) : fhC fhYF E d miX11_hear [.ref 0] σ (some (.int o.1)) o.2 := by
  refine fhC.of (y := yX11_hear) (cc := cX11_hear) (nL := 2) (ret := (some .int)) 11 rfl (by decide +kernel) (Nat.le_of_ble_eq_true rfl) ?_
  intro Γ hΓ hR hD hEn
  subst hD; subst hEn
  exact L_X11_hear_E hE hΓ hd   σ _ h hR

