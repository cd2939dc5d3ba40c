set_option maxRecDepth 100000 in
set_option maxHeartbeats 4000000 in
theorem L_X11_draw_E {Γ : fhX} (hE : fhEok fhYF (fhEn Γ)) (hΓ : fhOk fhYF 11 cX11_draw 2 (some .int) Γ) (hd : 0 ≤ fhD Γ) (v1 : Int32)  (σ : fhM) (o : Int32 × fhM) (h : f_X11_draw v1 σ = some o) (hk : (fun o => fhRet Γ (some (.int o.1)) o.2) o) : fhW fhYF Γ 0 [(0, .ref 0), (1, .int v1)] [] σ := by
  unfold f_X11_draw at h
  refine fhW.blk fhPF fhLL hΓ [(.aload_n 0, 0)] (pc' := 1) (lv' := [(0, .ref 0), (1, .int v1)]) (st' := [.ref 0]) (σ' := σ) (by decide +kernel) rfl rfl rfl ?_
  refine fhW.ldcw hΓ (v := 1103515245) (fhm (in_t (in_6 (List.mem_of_getElem? (i := 11) rfl))) rfl) (show decode _ _ = .ok (.ldc_w 349, 3) by decide +kernel) ?_
  refine fhW.blk fhPF fhLL hΓ [(.aload_n 0, 0), (.getfield 96, 0), (.imul, 0), (.sipush 12345, 12345), (.iadd, 0)] (pc' := 13) (lv' := [(0, .ref 0), (1, .int v1)]) (st' := [.int (((1103515245 : Int32) * (σ.1 0 16)) + (12345 : Int32)), .ref 0]) (σ' := σ) (by decide +kernel) rfl rfl rfl ?_
  refine fhW.ldcw hΓ (v := 2147483647) (fhm (in_t (in_6 (List.mem_of_getElem? (i := 12) rfl))) rfl) (show decode _ _ = .ok (.ldc_w 350, 3) by decide +kernel) ?_
  refine fhW.blk fhPF fhLL hΓ [(.iand, 0), (.putfield 96, 0), (.iload_n 1, 0)] (pc' := 21) (lv' := [(0, .ref 0), (1, .int v1)]) (st' := [.int v1]) (σ' := (fhI σ 0 16 ((((1103515245 : Int32) * (σ.1 0 16)) + (12345 : Int32)) &&& (2147483647 : Int32)))) (by decide +kernel) rfl rfl rfl ?_
  refine fhW.z_le hΓ (tgt := 36) (show fhbk _ _ (.ifCond .le (15)) _ = true by decide +kernel) (fun hc => ?_) (fun hc => ?_)
  · rw [if_pos hc] at h
    refine fhW.blk fhPF fhLL hΓ [(.iconst 0, 0)] (pc' := 37) (lv' := [(0, .ref 0), (1, .int v1)]) (st' := [.int (0 : Int32)]) (σ' := (fhI σ 0 16 ((((1103515245 : Int32) * (σ.1 0 16)) + (12345 : Int32)) &&& (2147483647 : Int32)))) (by decide +kernel) rfl rfl rfl ?_
    have e9 := Option.some.inj h
    subst e9
    exact fhW.iret hΓ (by decide +kernel) hk
  · rw [if_neg hc] at h
    obtain ⟨hg1, h⟩ := fhif h
    refine fhW.blk fhPF fhLL hΓ [(.aload_n 0, 0), (.getfield 96, 0), (.bipush 64, 64), (.idiv, 0), (.iload_n 1, 0), (.irem, 0)] (pc' := 33) (lv' := [(0, .ref 0), (1, .int v1)]) (st' := [.int (fhrem (((((1103515245 : Int32) * (σ.1 0 16)) + (12345 : Int32)) &&& (2147483647 : Int32)) / (64 : Int32)) v1)]) (σ' := (fhI σ 0 16 ((((1103515245 : Int32) * (σ.1 0 16)) + (12345 : Int32)) &&& (2147483647 : Int32)))) (by decide +kernel) rfl rfl hg1 ?_
    refine fhW.goto hΓ (off := 4) (tgt := 37) (by decide +kernel) ?_
    have e9 := Option.some.inj h
    subst e9
    exact fhW.iret hΓ (by decide +kernel) hk
set_option maxRecDepth 100000 in
theorem T_X11_draw {E : fhE} {d : Nat} (hE : fhEok fhYF E) (hd : 0 ≤ d) (v1 : Int32)  (σ : fhM) {o : Int32 × fhM} (h : f_X11_draw v1 σ = some o) : fhC fhYF E d miX11_draw [.ref 0, .int v1] σ (some (.int o.1)) o.2 := by
  refine fhC.of (y := yX11_draw) (cc := cX11_draw) (nL := 2) (ret := (some .int)) 11 rfl (by decide +kernel) (Nat.le_of_ble_eq_true rfl) ?_
  intro Γ hΓ hR hD hEn
  subst hD; subst hEn
  exact L_X11_draw_E hE hΓ hd v1  σ _ h hR
set_option maxRecDepth 100000 in
set_option maxHeartbeats 4000000 in
theorem L_X11_chance_33 {Γ : fhX} (hE : fhEok fhYF (fhEn Γ)) (hΓ : fhOk fhYF 11 cX11_chance 5 (some .int) Γ) (hd : 6 ≤ fhD Γ)   (σ : fhM) (o : Int32 × fhM) (h : f_X11_chance_33 σ = some o) (hk : (fun o => fhRet Γ (some (.int o.1)) o.2) o) : fhW fhYF Γ 33 [(0, .ref 0)] [] σ := by
  unfold f_X11_chance_33 at h
  refine fhW.blk fhPF fhLL hΓ [(.aload_n 0, 0), (.iconst 3, 3)] (pc' := 35) (lv' := [(0, .ref 0)]) (st' := [.int (3 : Int32), .ref 0]) (σ' := σ) (by decide +kernel) rfl rfl rfl ?_
  refine fhW.callv hΓ mvX11_refuse ml_11_106 (t := 0) (ci := 11) (av := [.int (3 : Int32)]) (rest := []) (r := (some (.int (f_X11_refuse (3 : Int32) σ).1))) (σ' := (f_X11_refuse (3 : Int32) σ).2) (T_X11_refuse (E := fhEn Γ) (d := fhD Γ - 1) hE (by omega) (3 : Int32) σ) (by omega) (by decide +kernel) rfl rfl rfl (Nat.le_of_ble_eq_true rfl) rfl ?_
  show fhW fhYF Γ 38 [(0, .ref 0)] [.int (f_X11_refuse (3 : Int32) σ).1] (f_X11_refuse (3 : Int32) σ).2
  obtain ⟨q2, e1, h⟩ := fhlet_elim h
  rw [← e1]
  have e9 := Option.some.inj h
  subst e9
  exact fhW.iret hΓ (by decide +kernel) hk
set_option maxRecDepth 100000 in
set_option maxHeartbeats 4000000 in
theorem L_X11_chance_104 {Γ : fhX} (hE : fhEok fhYF (fhEn Γ)) (hΓ : fhOk fhYF 11 cX11_chance 5 (some .int) Γ) (hd : 6 ≤ fhD Γ) (v1 : Int32) (v2 : Int32) (v3 : Int32) (v4 : Int32)  (σ : fhM) (o : (Int32 × Int32 × fhM) ⊕ (Int32 × fhM)) (h : f_X11_chance_104 v1 v2 v3 v4 σ = some o) (hk : (fhK (fun x => fhW fhYF Γ 54 [(0, .ref 0), (1, .int v1), (2, .int x.1), (3, .int x.2.1)] [] x.2.2) (fun o => fhRet Γ (some (.int o.1)) o.2)) o) : fhW fhYF Γ 104 [(0, .ref 0), (1, .int v1), (2, .int v2), (3, .int v3), (4, .int v4)] [] σ := by
  unfold f_X11_chance_104 at h
  refine fhW.blk fhPF fhLL hΓ [(.aload_n 0, 0), (.iload 4, 0)] (pc' := 107) (lv' := [(0, .ref 0), (1, .int v1), (2, .int v2), (3, .int v3), (4, .int v4)]) (st' := [.int v4, .ref 0]) (σ' := σ) (by decide +kernel) rfl rfl rfl ?_
  obtain ⟨q5, hb1, h⟩ := Option.bind_eq_some_iff.mp h
  refine fhW.callv hΓ mvX11_playRound ml_11_322 (t := 0) (ci := 11) (av := [.int v4]) (rest := []) (r := (some (.int q5.1))) (σ' := q5.2) (T_X11_playRound (E := fhEn Γ) (d := fhD Γ - 1) hE (by omega) v4 σ hb1) (by omega) (by decide +kernel) rfl rfl rfl (Nat.le_of_ble_eq_true rfl) rfl ?_
  show fhW fhYF Γ 110 [(0, .ref 0), (1, .int v1), (2, .int v2), (3, .int v3), (4, .int v4)] [.int q5.1] q5.2
  refine fhW.blk fhPF fhLL hΓ [(.pop, 0), (.iinc 3 1, 1)] (pc' := 114) (lv' := [(3, .int (v3 + (1 : Int32))), (0, .ref 0), (1, .int v1), (2, .int v2), (4, .int v4)]) (st' := []) (σ' := q5.2) (by decide +kernel) rfl rfl rfl ?_
  refine fhW.goto hΓ (off := (-60)) (tgt := 54) (by decide +kernel) ?_
  refine fhW.sub (lv' := [(0, .ref 0), (1, .int v1), (2, .int v2), (3, .int (v3 + (1 : Int32)))]) [1, 2, 3, 0] rfl ?_
  have e9 := Option.some.inj h
  subst e9
  exact hk
set_option maxRecDepth 100000 in
set_option maxHeartbeats 4000000 in
theorem L_X11_chance_54 {Γ : fhX} (hE : fhEok fhYF (fhEn Γ)) (hΓ : fhOk fhYF 11 cX11_chance 5 (some .int) Γ) (hd : 6 ≤ fhD Γ) (v1 : Int32) (v2 : Int32) (v3 : Int32)  (σ : fhM) (o : (Int32 × Int32 × fhM) ⊕ (Int32 × fhM)) (h : f_X11_chance_54 v1 v2 v3 σ = some o) (hk : (fhK (fun x => fhW fhYF Γ 54 [(0, .ref 0), (1, .int v1), (2, .int x.1), (3, .int x.2.1)] [] x.2.2) (fun o => fhRet Γ (some (.int o.1)) o.2)) o) : fhW fhYF Γ 54 [(0, .ref 0), (1, .int v1), (2, .int v2), (3, .int v3)] [] σ := by
  unfold f_X11_chance_54 at h
  refine fhW.blk fhPF fhLL hΓ [(.iload_n 3, 0), (.iload_n 1, 0)] (pc' := 56) (lv' := [(0, .ref 0), (1, .int v1), (2, .int v2), (3, .int v3)]) (st' := [.int v1, .int v3]) (σ' := σ) (by decide +kernel) rfl rfl rfl ?_
  refine fhW.i_ge hΓ (tgt := 117) (show fhbk _ _ (.if_icmp .ge (61)) _ = true by decide +kernel) (fun hc => ?_) (fun hc => ?_)
  · rw [if_pos hc] at h
    refine fhW.blk fhPF fhLL hΓ [(.iload_n 2, 0)] (pc' := 118) (lv' := [(0, .ref 0), (1, .int v1), (2, .int v2), (3, .int v3)]) (st' := [.int v2]) (σ' := σ) (by decide +kernel) rfl rfl rfl ?_
    have e9 := Option.some.inj h
    subst e9
    exact fhW.iret hΓ (by decide +kernel) hk
  · rw [if_neg hc] at h
    refine fhW.blk fhPF fhLL hΓ [(.iconst (-1), -1), (.istore 4, 0), (.aload_n 0, 0), (.bipush 100, 100)] (pc' := 65) (lv' := [(4, .int (-1 : Int32)), (0, .ref 0), (1, .int v1), (2, .int v2), (3, .int v3)]) (st' := [.int (100 : Int32), .ref 0]) (σ' := σ) (by decide +kernel) rfl rfl rfl ?_
    obtain ⟨q3, hb2, h⟩ := Option.bind_eq_some_iff.mp h
    refine fhW.callv hΓ mvX11_draw ml_11_340 (t := 0) (ci := 11) (av := [.int (100 : Int32)]) (rest := []) (r := (some (.int q3.1))) (σ' := q3.2) (T_X11_draw (E := fhEn Γ) (d := fhD Γ - 1) hE (by omega) (100 : Int32) σ hb2) (by omega) (by decide +kernel) rfl rfl rfl (Nat.le_of_ble_eq_true rfl) rfl ?_
    show fhW fhYF Γ 68 [(4, .int (-1 : Int32)), (0, .ref 0), (1, .int v1), (2, .int v2), (3, .int v3)] [.int q3.1] q3.2
    obtain ⟨hy1, h⟩ := fhif h
    refine fhW.blk fhPF fhLL hΓ [(.aload_n 0, 0), (.getfield 53, 0), (.getfield 343, 0)] (pc' := 75) (lv' := [(4, .int (-1 : Int32)), (0, .ref 0), (1, .int v1), (2, .int v2), (3, .int v3)]) (st' := [.int (q3.2.1 (q3.2.2.2 0 6) 13), .int q3.1]) (σ' := q3.2) (by decide +kernel) rfl rfl (by have hq := hy1; generalize (q3.2.2.2 0 6) = qq at hq ⊢; rcases fhiP_or hq with rfl | rfl <;> rfl) ?_
    refine fhW.i_ge hΓ (tgt := 104) (show fhbk _ _ (.if_icmp .ge (29)) _ = true by decide +kernel) (fun hc => ?_) (fun hc => ?_)
    · rw [if_pos hc] at h
      refine fhW.sub (lv' := [(0, .ref 0), (1, .int v1), (2, .int v2), (3, .int v3), (4, .int (-1 : Int32))]) [1, 2, 3, 4, 0] rfl ?_
      exact L_X11_chance_104 hE hΓ hd v1 v2 v3 (-1 : Int32) q3.2 _ h hk
    · rw [if_neg hc] at h
      refine fhW.blk fhPF fhLL hΓ [(.aload_n 0, 0), (.getfield 63, 0), (.getfield 166, 0)] (pc' := 85) (lv' := [(4, .int (-1 : Int32)), (0, .ref 0), (1, .int v1), (2, .int v2), (3, .int v3)]) (st' := [.int (q3.2.1 39 9)]) (σ' := q3.2) (by decide +kernel) rfl rfl rfl ?_
      refine fhW.z_le hΓ (tgt := 104) (show fhbk _ _ (.ifCond .le (19)) _ = true by decide +kernel) (fun hc => ?_) (fun hc => ?_)
      · rw [if_pos hc] at h
        refine fhW.sub (lv' := [(0, .ref 0), (1, .int v1), (2, .int v2), (3, .int v3), (4, .int (-1 : Int32))]) [1, 2, 3, 4, 0] rfl ?_
        exact L_X11_chance_104 hE hΓ hd v1 v2 v3 (-1 : Int32) q3.2 _ h hk
      · rw [if_neg hc] at h
        refine fhW.blk fhPF fhLL hΓ [(.aload_n 0, 0), (.aload_n 0, 0), (.getfield 63, 0), (.getfield 166, 0)] (pc' := 96) (lv' := [(4, .int (-1 : Int32)), (0, .ref 0), (1, .int v1), (2, .int v2), (3, .int v3)]) (st' := [.int (q3.2.1 39 9), .ref 0]) (σ' := q3.2) (by decide +kernel) rfl rfl rfl ?_
        obtain ⟨q4, hb3, h⟩ := Option.bind_eq_some_iff.mp h
        refine fhW.callv hΓ mvX11_draw ml_11_340 (t := 0) (ci := 11) (av := [.int (q3.2.1 39 9)]) (rest := []) (r := (some (.int q4.1))) (σ' := q4.2) (T_X11_draw (E := fhEn Γ) (d := fhD Γ - 1) hE (by omega) (q3.2.1 39 9) q3.2 hb3) (by omega) (by decide +kernel) rfl rfl rfl (Nat.le_of_ble_eq_true rfl) rfl ?_
        show fhW fhYF Γ 99 [(4, .int (-1 : Int32)), (0, .ref 0), (1, .int v1), (2, .int v2), (3, .int v3)] [.int q4.1] q4.2
        refine fhW.blk fhPF fhLL hΓ [(.istore 4, 0), (.iinc 2 1, 1)] (pc' := 104) (lv' := [(2, .int (v2 + (1 : Int32))), (4, .int q4.1), (0, .ref 0), (1, .int v1), (3, .int v3)]) (st' := []) (σ' := q4.2) (by decide +kernel) rfl rfl rfl ?_
        refine fhW.sub (lv' := [(0, .ref 0), (1, .int v1), (2, .int (v2 + (1 : Int32))), (3, .int v3), (4, .int q4.1)]) [2, 3, 0, 4, 1] rfl ?_
        exact L_X11_chance_104 hE hΓ hd v1 (v2 + (1 : Int32)) v3 q4.1 q4.2 _ h hk
set_option maxRecDepth 100000 in
set_option maxHeartbeats 4000000 in
theorem L_X11_chance_E {Γ : fhX} (hE : fhEok fhYF (fhEn Γ)) (hΓ : fhOk fhYF 11 cX11_chance 5 (some .int) Γ) (hd : 6 ≤ fhD Γ) (v1 : Int32)  (σ : fhM) (o : Int32 × fhM) (h : f_X11_chance v1 σ = some o) (hk : (fun o => fhRet Γ (some (.int o.1)) o.2) o) : fhW fhYF Γ 0 [(0, .ref 0), (1, .int v1)] [] σ := by
  unfold f_X11_chance at h
  refine fhW.blk fhPF fhLL hΓ [(.aload_n 0, 0), (.getfield 131, 0)] (pc' := 4) (lv' := [(0, .ref 0), (1, .int v1)]) (st' := [.int (σ.1 0 8)]) (σ' := σ) (by decide +kernel) rfl rfl rfl ?_
  refine fhW.z_eq hΓ (tgt := 33) (show fhbk _ _ (.ifCond .eq (29)) _ = true by decide +kernel) (fun hc => ?_) (fun hc => ?_)
  · rw [if_pos hc] at h
    refine fhW.sub (lv' := [(0, .ref 0)]) [0] rfl ?_
    exact L_X11_chance_33 hE hΓ hd σ _ h hk
  · rw [if_neg hc] at h
    refine fhW.blk fhPF fhLL hΓ [(.iload_n 1, 0), (.iconst 1, 1)] (pc' := 9) (lv' := [(0, .ref 0), (1, .int v1)]) (st' := [.int (1 : Int32), .int v1]) (σ' := σ) (by decide +kernel) rfl rfl rfl ?_
    refine fhW.i_lt hΓ (tgt := 33) (show fhbk _ _ (.if_icmp .lt (24)) _ = true by decide +kernel) (fun hc => ?_) (fun hc => ?_)
    · rw [if_pos hc] at h
      refine fhW.sub (lv' := [(0, .ref 0)]) [0] rfl ?_
      exact L_X11_chance_33 hE hΓ hd σ _ h hk
    · rw [if_neg hc] at h
      refine fhW.blk fhPF fhLL hΓ [(.iload_n 1, 0), (.bipush 20, 20)] (pc' := 15) (lv' := [(0, .ref 0), (1, .int v1)]) (st' := [.int (20 : Int32), .int v1]) (σ' := σ) (by decide +kernel) rfl rfl rfl ?_
      refine fhW.i_gt hΓ (tgt := 33) (show fhbk _ _ (.if_icmp .gt (18)) _ = true by decide +kernel) (fun hc => ?_) (fun hc => ?_)
      · rw [if_pos hc] at h
        refine fhW.sub (lv' := [(0, .ref 0)]) [0] rfl ?_
        exact L_X11_chance_33 hE hΓ hd σ _ h hk
      · rw [if_neg hc] at h
        refine fhW.blk fhPF fhLL hΓ [(.aload_n 0, 0), (.getfield 72, 0), (.getfield 175, 0), (.iload_n 1, 0), (.iadd, 0), (.sipush 999, 999)] (pc' := 30) (lv' := [(0, .ref 0), (1, .int v1)]) (st' := [.int (999 : Int32), .int ((σ.1 56 10) + v1)]) (σ' := σ) (by decide +kernel) rfl rfl rfl ?_
        refine fhW.i_le hΓ (tgt := 39) (show fhbk _ _ (.if_icmp .le (9)) _ = true by decide +kernel) (fun hc => ?_) (fun hc => ?_)
        · rw [if_pos hc] at h
          refine fhW.blk fhPF fhLL hΓ [(.aload_n 0, 0), (.getfield 86, 0), (.aload_n 0, 0), (.getfield 72, 0)] (pc' := 47) (lv' := [(0, .ref 0), (1, .int v1)]) (st' := [.ref 56, .ref 93]) (σ' := σ) (by decide +kernel) rfl rfl rfl ?_
          obtain ⟨q1, hb4, h⟩ := Option.bind_eq_some_iff.mp h
          refine fhW.callv hΓ mvX6_save ml_11_318 (t := 93) (ci := 6) (av := [.ref 56]) (rest := []) (r := none) (σ' := q1) (T_X6_save (E := fhEn Γ) (d := fhD Γ - 1) hE (by omega) σ hb4) (by omega) (by decide +kernel) rfl rfl rfl (Nat.le_of_ble_eq_true rfl) rfl ?_
          show fhW fhYF Γ 50 [(0, .ref 0), (1, .int v1)] [] q1
          refine fhW.blk fhPF fhLL hΓ [(.iconst 0, 0), (.istore_n 2, 0), (.iconst 0, 0), (.istore_n 3, 0)] (pc' := 54) (lv' := [(3, .int (0 : Int32)), (2, .int (0 : Int32)), (0, .ref 0), (1, .int v1)]) (st' := []) (σ' := q1) (by decide +kernel) rfl rfl rfl ?_
          refine fhW.sub (lv' := [(0, .ref 0), (1, .int v1), (2, .int (0 : Int32)), (3, .int (0 : Int32))]) [2, 3, 1, 0] rfl ?_
          exact fhlp_ok (W := (fun x => fhW fhYF Γ 54 [(0, .ref 0), (1, .int v1), (2, .int x.1), (3, .int x.2.1)] [] x.2.2)) (B := (fun o => fhRet Γ (some (.int o.1)) o.2)) (fun x o h hk => L_X11_chance_54 hE hΓ hd v1 x.1 x.2.1 x.2.2 o h hk) ((0 : Int32), (0 : Int32), q1) _ h hk
        · rw [if_neg hc] at h
          refine fhW.sub (lv' := [(0, .ref 0)]) [0] rfl ?_
          exact L_X11_chance_33 hE hΓ hd σ _ h hk
set_option maxRecDepth 100000 in
theorem T_X11_chance {E : fhE} {d : Nat} (hE : fhEok fhYF E) (hd : 6 ≤ d) (v1 : Int32)  (σ : fhM) {o : Int32 × fhM} (h : f_X11_chance v1 σ = some o) : fhC fhYF E d miX11_chance [.ref 0, .int v1] σ (some (.int o.1)) o.2 := by
  refine fhC.of (y := yX11_chance) (cc := cX11_chance) (nL := 5) (ret := (some .int)) 11 rfl (by decide +kernel) (Nat.le_of_ble_eq_true rfl) ?_
  intro Γ hΓ hR hD hEn
  subst hD; subst hEn
  exact L_X11_chance_E hE hΓ hd v1  σ _ h hR
set_option maxRecDepth 100000 in
set_option maxHeartbeats 4000000 in
theorem L_X11_deal_E {Γ : fhX} (hE : fhEok fhYF (fhEn Γ)) (hΓ : fhOk fhYF 11 cX11_deal 1 (some .int) Γ) (hd : 5 ≤ fhD Γ)   (σ : fhM) (o : Int32 × fhM) (h : f_X11_deal σ = some o) (hk : (fun o => fhRet Γ (some (.int o.1)) o.2) o) : fhW fhYF Γ 0 [(0, .ref 0)] [] σ := by
  unfold f_X11_deal at h
  refine fhW.blk fhPF fhLL hΓ [(.aload_n 0, 0), (.getfield 131, 0)] (pc' := 4) (lv' := [(0, .ref 0)]) (st' := [.int (σ.1 0 8)]) (σ' := σ) (by decide +kernel) rfl rfl rfl ?_
  refine fhW.z_ne hΓ (tgt := 13) (show fhbk _ _ (.ifCond .ne (9)) _ = true by decide +kernel) (fun hc => ?_) (fun hc => ?_)
  · rw [if_neg hc] at h
    refine fhW.blk fhPF fhLL hΓ [(.aload_n 0, 0), (.getfield 86, 0), (.aload_n 0, 0), (.getfield 72, 0)] (pc' := 21) (lv' := [(0, .ref 0)]) (st' := [.ref 56, .ref 93]) (σ' := σ) (by decide +kernel) rfl rfl rfl ?_
    obtain ⟨q1, hb1, h⟩ := Option.bind_eq_some_iff.mp h
    refine fhW.callv hΓ mvX6_save ml_11_318 (t := 93) (ci := 6) (av := [.ref 56]) (rest := []) (r := none) (σ' := q1) (T_X6_save (E := fhEn Γ) (d := fhD Γ - 1) hE (by omega) σ hb1) (by omega) (by decide +kernel) rfl rfl rfl (Nat.le_of_ble_eq_true rfl) rfl ?_
    show fhW fhYF Γ 24 [(0, .ref 0)] [] q1
    refine fhW.blk fhPF fhLL hΓ [(.aload_n 0, 0), (.getfield 72, 0), (.aload_n 0, 0), (.getfield 63, 0), (.getfield 346, 0), (.aload_n 0, 0), (.aload_n 0, 0), (.getfield 63, 0), (.getfield 181, 0)] (pc' := 43) (lv' := [(0, .ref 0)]) (st' := [.int (q1.1 39 12), .ref 0, .ref 54, .ref 56]) (σ' := q1) (by decide +kernel) rfl rfl rfl ?_
    obtain ⟨q2, hb2, h⟩ := Option.bind_eq_some_iff.mp h
    refine fhW.callv hΓ mvX11_draw ml_11_340 (t := 0) (ci := 11) (av := [.int (q1.1 39 12)]) (rest := [.ref 54, .ref 56]) (r := (some (.int q2.1))) (σ' := q2.2) (T_X11_draw (E := fhEn Γ) (d := fhD Γ - 1) hE (by omega) (q1.1 39 12) q1 hb2) (by omega) (by decide +kernel) rfl rfl rfl (Nat.le_of_ble_eq_true rfl) rfl ?_
    show fhW fhYF Γ 46 [(0, .ref 0)] [.int q2.1, .ref 54, .ref 56] q2.2
    refine fhW.callv hΓ mvX2_get ml_11_117 (t := 54) (ci := 2) (av := [.int q2.1]) (rest := [.ref 56]) (r := (some (.int (fcG q2.2 54 q2.1)))) (σ' := q2.2) (T_X2_get (E := fhEn Γ) (d := fhD Γ - 1) hE (by omega) 54 q2.1 rfl q2.2) (by omega) (by decide +kernel) rfl rfl rfl (Nat.le_of_ble_eq_true rfl) rfl ?_
    show fhW fhYF Γ 49 [(0, .ref 0)] [.int (fcG q2.2 54 q2.1), .ref 56] q2.2
    obtain ⟨q3, hb3, h⟩ := Option.bind_eq_some_iff.mp h
    refine fhW.callv hΓ mvX4_begin ml_11_142 (t := 56) (ci := 4) (av := [.int (fcG q2.2 54 q2.1)]) (rest := []) (r := none) (σ' := q3) (T_X4_begin (E := fhEn Γ) (d := fhD Γ - 1) hE (by omega) (fcG q2.2 54 q2.1) q2.2 hb3) (by omega) (by decide +kernel) rfl rfl rfl (Nat.le_of_ble_eq_true rfl) rfl ?_
    show fhW fhYF Γ 52 [(0, .ref 0)] [] q3
    refine fhW.blk fhPF fhLL hΓ [(.aload_n 0, 0), (.getfield 72, 0), (.getfield 208, 0)] (pc' := 59) (lv' := [(0, .ref 0)]) (st' := [.int (q3.1 56 9)]) (σ' := q3) (by decide +kernel) rfl rfl rfl ?_
    have e9 := Option.some.inj h
    subst e9
    exact fhW.iret hΓ (by decide +kernel) hk
  · rw [if_pos hc] at h
    refine fhW.blk fhPF fhLL hΓ [(.aload_n 0, 0), (.iconst 3, 3)] (pc' := 9) (lv' := [(0, .ref 0)]) (st' := [.int (3 : Int32), .ref 0]) (σ' := σ) (by decide +kernel) rfl rfl rfl ?_
    refine fhW.callv hΓ mvX11_refuse ml_11_106 (t := 0) (ci := 11) (av := [.int (3 : Int32)]) (rest := []) (r := (some (.int (f_X11_refuse (3 : Int32) σ).1))) (σ' := (f_X11_refuse (3 : Int32) σ).2) (T_X11_refuse (E := fhEn Γ) (d := fhD Γ - 1) hE (by omega) (3 : Int32) σ) (by omega) (by decide +kernel) rfl rfl rfl (Nat.le_of_ble_eq_true rfl) rfl ?_
    show fhW fhYF Γ 12 [(0, .ref 0)] [.int (f_X11_refuse (3 : Int32) σ).1] (f_X11_refuse (3 : Int32) σ).2
    obtain ⟨q4, e1, h⟩ := fhlet_elim h
    rw [← e1]
    have e9 := Option.some.inj h
    subst e9
    exact fhW.iret hΓ (by decide +kernel) hk
set_option maxRecDepth 100000 in
theorem T_X11_deal {E : fhE} {d : Nat} (hE : fhEok fhYF E) (hd : 5 ≤ d)   (σ : fhM) {o : Int32 × fhM} (h : f_X11_deal σ = some o) : fhC fhYF E d miX11_deal [.ref 0] σ (some (.int o.1)) o.2 := by
  refine fhC.of (y := yX11_deal) (cc := cX11_deal) (nL := 1) (ret := (some .int)) 11 rfl (by decide +kernel) (Nat.le_of_ble_eq_true rfl) ?_
  intro Γ hΓ hR hD hEn
  subst hD; subst hEn
  exact L_X11_deal_E hE hΓ hd   σ _ h hR
set_option maxRecDepth 100000 in
set_option maxHeartbeats 4000000 in
theorem L_X6_restore_147 {Γ : fhX} (hE : fhEok fhYF (fhEn Γ)) (hΓ : fhOk fhYF 6 cX6_restore 4 (some .boolean) Γ) (hd : 4 ≤ fhD Γ) (v2 : Int32) (v3 : Int32)  (σ : fhM) (o : (Int32 × fhM) ⊕ (Bool × fhM)) (h : f_X6_restore_147 v2 v3 σ = some o) (hk : (fhK (fun x => fhW fhYF Γ 90 [(0, .ref 93), (1, .ref 56), (2, .int v2), (3, .int x.1)] [] x.2) (fun o => fhRet Γ (some (.int (fhb o.1))) o.2)) o) : fhW fhYF Γ 147 [(0, .ref 93), (1, .ref 56), (2, .int v2), (3, .int v3)] [] σ := by
  unfold f_X6_restore_147 at h
  refine fhW.blk fhPF fhLL hΓ [(.iinc 3 1, 1)] (pc' := 150) (lv' := [(3, .int (v3 + (1 : Int32))), (0, .ref 93), (1, .ref 56), (2, .int v2)]) (st' := []) (σ' := σ) (by decide +kernel) rfl rfl rfl ?_
  refine fhW.goto hΓ (off := (-60)) (tgt := 90) (by decide +kernel) ?_
  refine fhW.sub (lv' := [(0, .ref 93), (1, .ref 56), (2, .int v2), (3, .int (v3 + (1 : Int32)))]) [1, 2, 3, 0] rfl ?_
  have e9 := Option.some.inj h
  subst e9
  exact hk
set_option maxRecDepth 100000 in
set_option maxHeartbeats 4000000 in
theorem L_X6_restore_90 {Γ : fhX} (hE : fhEok fhYF (fhEn Γ)) (hΓ : fhOk fhYF 6 cX6_restore 4 (some .boolean) Γ) (hd : 4 ≤ fhD Γ) (v2 : Int32) (v3 : Int32)  (σ : fhM) (o : (Int32 × fhM) ⊕ (Bool × fhM)) (h : f_X6_restore_90 v2 v3 σ = some o) (hk : (fhK (fun x => fhW fhYF Γ 90 [(0, .ref 93), (1, .ref 56), (2, .int v2), (3, .int x.1)] [] x.2) (fun o => fhRet Γ (some (.int (fhb o.1))) o.2)) o) : fhW fhYF Γ 90 [(0, .ref 93), (1, .ref 56), (2, .int v2), (3, .int v3)] [] σ := by
  unfold f_X6_restore_90 at h
  refine fhW.blk fhPF fhLL hΓ [(.iload_n 3, 0), (.aload_n 1, 0), (.getfield 65, 0), (.getfield 69, 0)] (pc' := 98) (lv' := [(0, .ref 93), (1, .ref 56), (2, .int v2), (3, .int v3)]) (st' := [.int (σ.1 39 11), .int v3]) (σ' := σ) (by decide +kernel) rfl rfl rfl ?_
  refine fhW.i_ge hΓ (tgt := 153) (show fhbk _ _ (.if_icmp .ge (55)) _ = true by decide +kernel) (fun hc => ?_) (fun hc => ?_)
  · rw [if_pos hc] at h
    refine fhW.blk fhPF fhLL hΓ [(.aload_n 1, 0)] (pc' := 154) (lv' := [(0, .ref 93), (1, .ref 56), (2, .int v2), (3, .int v3)]) (st' := [.ref 56]) (σ' := σ) (by decide +kernel) rfl rfl rfl ?_
    obtain ⟨q1, hb1, h⟩ := Option.bind_eq_some_iff.mp h
    refine fhW.callv hΓ mvX4_settle ml_6_74 (t := 56) (ci := 4) (av := []) (rest := []) (r := none) (σ' := q1) (T_X4_settle (E := fhEn Γ) (d := fhD Γ - 1) hE (by omega) σ hb1) (by omega) (by decide +kernel) rfl rfl rfl (Nat.le_of_ble_eq_true rfl) rfl ?_
    show fhW fhYF Γ 157 [(0, .ref 93), (1, .ref 56), (2, .int v2), (3, .int v3)] [] q1
    refine fhW.blk fhPF fhLL hΓ [(.iconst 1, 1)] (pc' := 158) (lv' := [(0, .ref 93), (1, .ref 56), (2, .int v2), (3, .int v3)]) (st' := [.int (1 : Int32)]) (σ' := q1) (by decide +kernel) rfl rfl rfl ?_
    have e9 := Option.some.inj h
    subst e9
    exact fhW.zret (v := true) hΓ (by decide +kernel) hk
  · rw [if_neg hc] at h
    refine fhW.blk fhPF fhLL hΓ [(.aload_n 0, 0), (.getfield 20, 0), (.iload_n 2, 0), (.iconst 3, 3), (.iadd, 0), (.iload_n 3, 0), (.iconst 5, 5), (.ishr, 0), (.iadd, 0)] (pc' := 112) (lv' := [(0, .ref 93), (1, .ref 56), (2, .int v2), (3, .int v3)]) (st' := [.int ((v2 + (3 : Int32)) + (v3 >>> ((5 : Int32) &&& 31))), .ref 96]) (σ' := σ) (by decide +kernel) rfl rfl rfl ?_
    refine fhW.callv hΓ mvX2_get ml_6_47 (t := 96) (ci := 2) (av := [.int ((v2 + (3 : Int32)) + (v3 >>> ((5 : Int32) &&& 31)))]) (rest := []) (r := (some (.int (fcG σ 96 ((v2 + (3 : Int32)) + (v3 >>> ((5 : Int32) &&& 31))))))) (σ' := σ) (T_X2_get (E := fhEn Γ) (d := fhD Γ - 1) hE (by omega) 96 ((v2 + (3 : Int32)) + (v3 >>> ((5 : Int32) &&& 31))) rfl σ) (by omega) (by decide +kernel) rfl rfl rfl (Nat.le_of_ble_eq_true rfl) rfl ?_
    show fhW fhYF Γ 115 [(0, .ref 93), (1, .ref 56), (2, .int v2), (3, .int v3)] [.int (fcG σ 96 ((v2 + (3 : Int32)) + (v3 >>> ((5 : Int32) &&& 31))))] σ
    refine fhW.blk fhPF fhLL hΓ [(.iload_n 3, 0), (.bipush 31, 31), (.iand, 0), (.ishr, 0), (.iconst 1, 1), (.iand, 0)] (pc' := 122) (lv' := [(0, .ref 93), (1, .ref 56), (2, .int v2), (3, .int v3)]) (st' := [.int (((fcG σ 96 ((v2 + (3 : Int32)) + (v3 >>> ((5 : Int32) &&& 31)))) >>> ((v3 &&& (31 : Int32)) &&& 31)) &&& (1 : Int32))]) (σ' := σ) (by decide +kernel) rfl rfl rfl ?_
    refine fhW.z_eq hΓ (tgt := 147) (show fhbk _ _ (.ifCond .eq (25)) _ = true by decide +kernel) (fun hc => ?_) (fun hc => ?_)
    · rw [if_pos hc] at h
      refine fhW.sub (lv' := [(0, .ref 93), (1, .ref 56), (2, .int v2), (3, .int v3)]) [0, 1, 2, 3] rfl ?_
      exact L_X6_restore_147 hE hΓ hd v2 v3 σ _ h hk
    · rw [if_neg hc] at h
      refine fhW.blk fhPF fhLL hΓ [(.aload_n 1, 0), (.getfield 62, 0), (.aload_n 1, 0), (.getfield 59, 0), (.iload_n 3, 0)] (pc' := 134) (lv' := [(0, .ref 93), (1, .ref 56), (2, .int v2), (3, .int v3)]) (st' := [.int v3, .int (σ.1 56 8), .ref 72]) (σ' := σ) (by decide +kernel) rfl rfl rfl ?_
      refine fhW.callv hΓ mvX2_put ml_6_33 (t := 72) (ci := 2) (av := [.int (σ.1 56 8), .int v3]) (rest := []) (r := none) (σ' := (fcP σ 72 (σ.1 56 8) v3)) (T_X2_put (E := fhEn Γ) (d := fhD Γ - 1) hE (by omega) 72 (σ.1 56 8) v3 rfl σ) (by omega) (by decide +kernel) rfl rfl rfl (Nat.le_of_ble_eq_true rfl) rfl ?_
      show fhW fhYF Γ 137 [(0, .ref 93), (1, .ref 56), (2, .int v2), (3, .int v3)] [] (fcP σ 72 (σ.1 56 8) v3)
      refine fhW.blk fhPF fhLL hΓ [(.aload_n 1, 0), (.dup, 0), (.getfield 59, 0), (.iconst 1, 1), (.iadd, 0), (.putfield 59, 0)] (pc' := 147) (lv' := [(0, .ref 93), (1, .ref 56), (2, .int v2), (3, .int v3)]) (st' := []) (σ' := (fhI (fcP σ 72 (σ.1 56 8) v3) 56 8 ((σ.1 56 8) + (1 : Int32)))) (by decide +kernel) rfl rfl rfl ?_
      refine fhW.sub (lv' := [(0, .ref 93), (1, .ref 56), (2, .int v2), (3, .int v3)]) [0, 1, 2, 3] rfl ?_
      exact L_X6_restore_147 hE hΓ hd v2 v3 (fhI (fcP σ 72 (σ.1 56 8) v3) 56 8 ((σ.1 56 8) + (1 : Int32))) _ h hk
set_option maxRecDepth 100000 in
set_option maxHeartbeats 4000000 in
theorem L_X6_restore_E {Γ : fhX} (hE : fhEok fhYF (fhEn Γ)) (hΓ : fhOk fhYF 6 cX6_restore 4 (some .boolean) Γ) (hd : 4 ≤ fhD Γ)   (σ : fhM) (o : Bool × fhM) (h : f_X6_restore σ = some o) (hk : (fun o => fhRet Γ (some (.int (fhb o.1))) o.2) o) : fhW fhYF Γ 0 [(0, .ref 93), (1, .ref 56)] [] σ := by
  unfold f_X6_restore at h
  refine fhW.blk fhPF fhLL hΓ [(.aload_n 0, 0), (.getfield 30, 0)] (pc' := 4) (lv' := [(0, .ref 93), (1, .ref 56)]) (st' := [.int (σ.1 93 4)]) (σ' := σ) (by decide +kernel) rfl rfl rfl ?_
  refine fhW.z_ne hΓ (tgt := 9) (show fhbk _ _ (.ifCond .ne (5)) _ = true by decide +kernel) (fun hc => ?_) (fun hc => ?_)
  · rw [if_neg hc] at h
    refine fhW.blk fhPF fhLL hΓ [(.aload_n 0, 0), (.dup, 0), (.getfield 30, 0), (.iconst 1, 1), (.isub, 0), (.putfield 30, 0), (.aload_n 0, 0), (.aload_n 0, 0), (.getfield 27, 0), (.bipush 20, 20), (.iadd, 0), (.iconst 1, 1), (.isub, 0), (.bipush 20, 20), (.irem, 0), (.putfield 27, 0), (.aload_n 0, 0), (.getfield 27, 0), (.bipush 35, 35), (.imul, 0), (.istore_n 2, 0)] (pc' := 43) (lv' := [(2, .int ((fhrem (((σ.1 93 3) + (20 : Int32)) - (1 : Int32)) (20 : Int32)) * (35 : Int32))), (0, .ref 93), (1, .ref 56)]) (st' := []) (σ' := (fhI (fhI σ 93 4 ((σ.1 93 4) - (1 : Int32))) 93 3 (fhrem (((σ.1 93 3) + (20 : Int32)) - (1 : Int32)) (20 : Int32)))) (by decide +kernel) rfl rfl rfl ?_
    obtain ⟨w2_1, e1, h⟩ := fhlet_elim h
    rw [← e1]
    refine fhW.blk fhPF fhLL hΓ [(.aload_n 1, 0), (.aload_n 0, 0), (.getfield 20, 0), (.iload_n 2, 0)] (pc' := 49) (lv' := [(2, .int w2_1), (0, .ref 93), (1, .ref 56)]) (st' := [.int w2_1, .ref 96, .ref 56]) (σ' := (fhI (fhI σ 93 4 ((σ.1 93 4) - (1 : Int32))) 93 3 (fhrem (((σ.1 93 3) + (20 : Int32)) - (1 : Int32)) (20 : Int32)))) (by decide +kernel) rfl rfl rfl ?_
    refine fhW.callv hΓ mvX2_get ml_6_47 (t := 96) (ci := 2) (av := [.int w2_1]) (rest := [.ref 56]) (r := (some (.int (fcG (fhI (fhI σ 93 4 ((σ.1 93 4) - (1 : Int32))) 93 3 (fhrem (((σ.1 93 3) + (20 : Int32)) - (1 : Int32)) (20 : Int32))) 96 w2_1)))) (σ' := (fhI (fhI σ 93 4 ((σ.1 93 4) - (1 : Int32))) 93 3 (fhrem (((σ.1 93 3) + (20 : Int32)) - (1 : Int32)) (20 : Int32)))) (T_X2_get (E := fhEn Γ) (d := fhD Γ - 1) hE (by omega) 96 w2_1 rfl (fhI (fhI σ 93 4 ((σ.1 93 4) - (1 : Int32))) 93 3 (fhrem (((σ.1 93 3) + (20 : Int32)) - (1 : Int32)) (20 : Int32)))) (by omega) (by decide +kernel) rfl rfl rfl (Nat.le_of_ble_eq_true rfl) rfl ?_
    show fhW fhYF Γ 52 [(2, .int w2_1), (0, .ref 93), (1, .ref 56)] [.int (fcG (fhI (fhI σ 93 4 ((σ.1 93 4) - (1 : Int32))) 93 3 (fhrem (((σ.1 93 3) + (20 : Int32)) - (1 : Int32)) (20 : Int32))) 96 w2_1), .ref 56] (fhI (fhI σ 93 4 ((σ.1 93 4) - (1 : Int32))) 93 3 (fhrem (((σ.1 93 3) + (20 : Int32)) - (1 : Int32)) (20 : Int32)))
    refine fhW.blk fhPF fhLL hΓ [(.putfield 51, 0), (.aload_n 1, 0), (.aload_n 0, 0), (.getfield 20, 0), (.iload_n 2, 0), (.iconst 1, 1), (.iadd, 0)] (pc' := 63) (lv' := [(2, .int w2_1), (0, .ref 93), (1, .ref 56)]) (st' := [.int (w2_1 + (1 : Int32)), .ref 96, .ref 56]) (σ' := (fhI (fhI (fhI σ 93 4 ((σ.1 93 4) - (1 : Int32))) 93 3 (fhrem (((σ.1 93 3) + (20 : Int32)) - (1 : Int32)) (20 : Int32))) 56 9 (fcG (fhI (fhI σ 93 4 ((σ.1 93 4) - (1 : Int32))) 93 3 (fhrem (((σ.1 93 3) + (20 : Int32)) - (1 : Int32)) (20 : Int32))) 96 w2_1))) (by decide +kernel) rfl rfl rfl ?_
    refine fhW.callv hΓ mvX2_get ml_6_47 (t := 96) (ci := 2) (av := [.int (w2_1 + (1 : Int32))]) (rest := [.ref 56]) (r := (some (.int (fcG (fhI (fhI (fhI σ 93 4 ((σ.1 93 4) - (1 : Int32))) 93 3 (fhrem (((σ.1 93 3) + (20 : Int32)) - (1 : Int32)) (20 : Int32))) 56 9 (fcG (fhI (fhI σ 93 4 ((σ.1 93 4) - (1 : Int32))) 93 3 (fhrem (((σ.1 93 3) + (20 : Int32)) - (1 : Int32)) (20 : Int32))) 96 w2_1)) 96 (w2_1 + (1 : Int32)))))) (σ' := (fhI (fhI (fhI σ 93 4 ((σ.1 93 4) - (1 : Int32))) 93 3 (fhrem (((σ.1 93 3) + (20 : Int32)) - (1 : Int32)) (20 : Int32))) 56 9 (fcG (fhI (fhI σ 93 4 ((σ.1 93 4) - (1 : Int32))) 93 3 (fhrem (((σ.1 93 3) + (20 : Int32)) - (1 : Int32)) (20 : Int32))) 96 w2_1))) (T_X2_get (E := fhEn Γ) (d := fhD Γ - 1) hE (by omega) 96 (w2_1 + (1 : Int32)) rfl (fhI (fhI (fhI σ 93 4 ((σ.1 93 4) - (1 : Int32))) 93 3 (fhrem (((σ.1 93 3) + (20 : Int32)) - (1 : Int32)) (20 : Int32))) 56 9 (fcG (fhI (fhI σ 93 4 ((σ.1 93 4) - (1 : Int32))) 93 3 (fhrem (((σ.1 93 3) + (20 : Int32)) - (1 : Int32)) (20 : Int32))) 96 w2_1))) (by omega) (by decide +kernel) rfl rfl rfl (Nat.le_of_ble_eq_true rfl) rfl ?_
    show fhW fhYF Γ 66 [(2, .int w2_1), (0, .ref 93), (1, .ref 56)] [.int (fcG (fhI (fhI (fhI σ 93 4 ((σ.1 93 4) - (1 : Int32))) 93 3 (fhrem (((σ.1 93 3) + (20 : Int32)) - (1 : Int32)) (20 : Int32))) 56 9 (fcG (fhI (fhI σ 93 4 ((σ.1 93 4) - (1 : Int32))) 93 3 (fhrem (((σ.1 93 3) + (20 : Int32)) - (1 : Int32)) (20 : Int32))) 96 w2_1)) 96 (w2_1 + (1 : Int32))), .ref 56] (fhI (fhI (fhI σ 93 4 ((σ.1 93 4) - (1 : Int32))) 93 3 (fhrem (((σ.1 93 3) + (20 : Int32)) - (1 : Int32)) (20 : Int32))) 56 9 (fcG (fhI (fhI σ 93 4 ((σ.1 93 4) - (1 : Int32))) 93 3 (fhrem (((σ.1 93 3) + (20 : Int32)) - (1 : Int32)) (20 : Int32))) 96 w2_1))
    refine fhW.blk fhPF fhLL hΓ [(.putfield 56, 0), (.aload_n 0, 0), (.aload_n 0, 0), (.getfield 20, 0), (.iload_n 2, 0), (.iconst 2, 2), (.iadd, 0)] (pc' := 77) (lv' := [(2, .int w2_1), (0, .ref 93), (1, .ref 56)]) (st' := [.int (w2_1 + (2 : Int32)), .ref 96, .ref 93]) (σ' := (fhI (fhI (fhI (fhI σ 93 4 ((σ.1 93 4) - (1 : Int32))) 93 3 (fhrem (((σ.1 93 3) + (20 : Int32)) - (1 : Int32)) (20 : Int32))) 56 9 (fcG (fhI (fhI σ 93 4 ((σ.1 93 4) - (1 : Int32))) 93 3 (fhrem (((σ.1 93 3) + (20 : Int32)) - (1 : Int32)) (20 : Int32))) 96 w2_1)) 56 10 (fcG (fhI (fhI (fhI σ 93 4 ((σ.1 93 4) - (1 : Int32))) 93 3 (fhrem (((σ.1 93 3) + (20 : Int32)) - (1 : Int32)) (20 : Int32))) 56 9 (fcG (fhI (fhI σ 93 4 ((σ.1 93 4) - (1 : Int32))) 93 3 (fhrem (((σ.1 93 3) + (20 : Int32)) - (1 : Int32)) (20 : Int32))) 96 w2_1)) 96 (w2_1 + (1 : Int32))))) (by decide +kernel) rfl rfl rfl ?_
    refine fhW.callv hΓ mvX2_get ml_6_47 (t := 96) (ci := 2) (av := [.int (w2_1 + (2 : Int32))]) (rest := [.ref 93]) (r := (some (.int (fcG (fhI (fhI (fhI (fhI σ 93 4 ((σ.1 93 4) - (1 : Int32))) 93 3 (fhrem (((σ.1 93 3) + (20 : Int32)) - (1 : Int32)) (20 : Int32))) 56 9 (fcG (fhI (fhI σ 93 4 ((σ.1 93 4) - (1 : Int32))) 93 3 (fhrem (((σ.1 93 3) + (20 : Int32)) - (1 : Int32)) (20 : Int32))) 96 w2_1)) 56 10 (fcG (fhI (fhI (fhI σ 93 4 ((σ.1 93 4) - (1 : Int32))) 93 3 (fhrem (((σ.1 93 3) + (20 : Int32)) - (1 : Int32)) (20 : Int32))) 56 9 (fcG (fhI (fhI σ 93 4 ((σ.1 93 4) - (1 : Int32))) 93 3 (fhrem (((σ.1 93 3) + (20 : Int32)) - (1 : Int32)) (20 : Int32))) 96 w2_1)) 96 (w2_1 + (1 : Int32)))) 96 (w2_1 + (2 : Int32)))))) (σ' := (fhI (fhI (fhI (fhI σ 93 4 ((σ.1 93 4) - (1 : Int32))) 93 3 (fhrem (((σ.1 93 3) + (20 : Int32)) - (1 : Int32)) (20 : Int32))) 56 9 (fcG (fhI (fhI σ 93 4 ((σ.1 93 4) - (1 : Int32))) 93 3 (fhrem (((σ.1 93 3) + (20 : Int32)) - (1 : Int32)) (20 : Int32))) 96 w2_1)) 56 10 (fcG (fhI (fhI (fhI σ 93 4 ((σ.1 93 4) - (1 : Int32))) 93 3 (fhrem (((σ.1 93 3) + (20 : Int32)) - (1 : Int32)) (20 : Int32))) 56 9 (fcG (fhI (fhI σ 93 4 ((σ.1 93 4) - (1 : Int32))) 93 3 (fhrem (((σ.1 93 3) + (20 : Int32)) - (1 : Int32)) (20 : Int32))) 96 w2_1)) 96 (w2_1 + (1 : Int32))))) (T_X2_get (E := fhEn Γ) (d := fhD Γ - 1) hE (by omega) 96 (w2_1 + (2 : Int32)) rfl (fhI (fhI (fhI (fhI σ 93 4 ((σ.1 93 4) - (1 : Int32))) 93 3 (fhrem (((σ.1 93 3) + (20 : Int32)) - (1 : Int32)) (20 : Int32))) 56 9 (fcG (fhI (fhI σ 93 4 ((σ.1 93 4) - (1 : Int32))) 93 3 (fhrem (((σ.1 93 3) + (20 : Int32)) - (1 : Int32)) (20 : Int32))) 96 w2_1)) 56 10 (fcG (fhI (fhI (fhI σ 93 4 ((σ.1 93 4) - (1 : Int32))) 93 3 (fhrem (((σ.1 93 3) + (20 : Int32)) - (1 : Int32)) (20 : Int32))) 56 9 (fcG (fhI (fhI σ 93 4 ((σ.1 93 4) - (1 : Int32))) 93 3 (fhrem (((σ.1 93 3) + (20 : Int32)) - (1 : Int32)) (20 : Int32))) 96 w2_1)) 96 (w2_1 + (1 : Int32))))) (by omega) (by decide +kernel) rfl rfl rfl (Nat.le_of_ble_eq_true rfl) rfl ?_
    show fhW fhYF Γ 80 [(2, .int w2_1), (0, .ref 93), (1, .ref 56)] [.int (fcG (fhI (fhI (fhI (fhI σ 93 4 ((σ.1 93 4) - (1 : Int32))) 93 3 (fhrem (((σ.1 93 3) + (20 : Int32)) - (1 : Int32)) (20 : Int32))) 56 9 (fcG (fhI (fhI σ 93 4 ((σ.1 93 4) - (1 : Int32))) 93 3 (fhrem (((σ.1 93 3) + (20 : Int32)) - (1 : Int32)) (20 : Int32))) 96 w2_1)) 56 10 (fcG (fhI (fhI (fhI σ 93 4 ((σ.1 93 4) - (1 : Int32))) 93 3 (fhrem (((σ.1 93 3) + (20 : Int32)) - (1 : Int32)) (20 : Int32))) 56 9 (fcG (fhI (fhI σ 93 4 ((σ.1 93 4) - (1 : Int32))) 93 3 (fhrem (((σ.1 93 3) + (20 : Int32)) - (1 : Int32)) (20 : Int32))) 96 w2_1)) 96 (w2_1 + (1 : Int32)))) 96 (w2_1 + (2 : Int32))), .ref 93] (fhI (fhI (fhI (fhI σ 93 4 ((σ.1 93 4) - (1 : Int32))) 93 3 (fhrem (((σ.1 93 3) + (20 : Int32)) - (1 : Int32)) (20 : Int32))) 56 9 (fcG (fhI (fhI σ 93 4 ((σ.1 93 4) - (1 : Int32))) 93 3 (fhrem (((σ.1 93 3) + (20 : Int32)) - (1 : Int32)) (20 : Int32))) 96 w2_1)) 56 10 (fcG (fhI (fhI (fhI σ 93 4 ((σ.1 93 4) - (1 : Int32))) 93 3 (fhrem (((σ.1 93 3) + (20 : Int32)) - (1 : Int32)) (20 : Int32))) 56 9 (fcG (fhI (fhI σ 93 4 ((σ.1 93 4) - (1 : Int32))) 93 3 (fhrem (((σ.1 93 3) + (20 : Int32)) - (1 : Int32)) (20 : Int32))) 96 w2_1)) 96 (w2_1 + (1 : Int32))))
    refine fhW.blk fhPF fhLL hΓ [(.putfield 23, 0), (.aload_n 1, 0), (.iconst 0, 0), (.putfield 59, 0), (.iconst 0, 0), (.istore_n 3, 0)] (pc' := 90) (lv' := [(3, .int (0 : Int32)), (2, .int w2_1), (0, .ref 93), (1, .ref 56)]) (st' := []) (σ' := (fhI (fhI (fhI (fhI (fhI (fhI σ 93 4 ((σ.1 93 4) - (1 : Int32))) 93 3 (fhrem (((σ.1 93 3) + (20 : Int32)) - (1 : Int32)) (20 : Int32))) 56 9 (fcG (fhI (fhI σ 93 4 ((σ.1 93 4) - (1 : Int32))) 93 3 (fhrem (((σ.1 93 3) + (20 : Int32)) - (1 : Int32)) (20 : Int32))) 96 w2_1)) 56 10 (fcG (fhI (fhI (fhI σ 93 4 ((σ.1 93 4) - (1 : Int32))) 93 3 (fhrem (((σ.1 93 3) + (20 : Int32)) - (1 : Int32)) (20 : Int32))) 56 9 (fcG (fhI (fhI σ 93 4 ((σ.1 93 4) - (1 : Int32))) 93 3 (fhrem (((σ.1 93 3) + (20 : Int32)) - (1 : Int32)) (20 : Int32))) 96 w2_1)) 96 (w2_1 + (1 : Int32)))) 93 1 (fcG (fhI (fhI (fhI (fhI σ 93 4 ((σ.1 93 4) - (1 : Int32))) 93 3 (fhrem (((σ.1 93 3) + (20 : Int32)) - (1 : Int32)) (20 : Int32))) 56 9 (fcG (fhI (fhI σ 93 4 ((σ.1 93 4) - (1 : Int32))) 93 3 (fhrem (((σ.1 93 3) + (20 : Int32)) - (1 : Int32)) (20 : Int32))) 96 w2_1)) 56 10 (fcG (fhI (fhI (fhI σ 93 4 ((σ.1 93 4) - (1 : Int32))) 93 3 (fhrem (((σ.1 93 3) + (20 : Int32)) - (1 : Int32)) (20 : Int32))) 56 9 (fcG (fhI (fhI σ 93 4 ((σ.1 93 4) - (1 : Int32))) 93 3 (fhrem (((σ.1 93 3) + (20 : Int32)) - (1 : Int32)) (20 : Int32))) 96 w2_1)) 96 (w2_1 + (1 : Int32)))) 96 (w2_1 + (2 : Int32)))) 56 8 (0 : Int32))) (by decide +kernel) rfl rfl rfl ?_
    refine fhW.sub (lv' := [(0, .ref 93), (1, .ref 56), (2, .int w2_1), (3, .int (0 : Int32))]) [2, 3, 1, 0] rfl ?_
    exact fhlp_ok (W := (fun x => fhW fhYF Γ 90 [(0, .ref 93), (1, .ref 56), (2, .int w2_1), (3, .int x.1)] [] x.2)) (B := (fun o => fhRet Γ (some (.int (fhb o.1))) o.2)) (fun x o h hk => L_X6_restore_90 hE hΓ hd w2_1 x.1 x.2 o h hk) ((0 : Int32), (fhI (fhI (fhI (fhI (fhI (fhI σ 93 4 ((σ.1 93 4) - (1 : Int32))) 93 3 (fhrem (((σ.1 93 3) + (20 : Int32)) - (1 : Int32)) (20 : Int32))) 56 9 (fcG (fhI (fhI σ 93 4 ((σ.1 93 4) - (1 : Int32))) 93 3 (fhrem (((σ.1 93 3) + (20 : Int32)) - (1 : Int32)) (20 : Int32))) 96 w2_1)) 56 10 (fcG (fhI (fhI (fhI σ 93 4 ((σ.1 93 4) - (1 : Int32))) 93 3 (fhrem (((σ.1 93 3) + (20 : Int32)) - (1 : Int32)) (20 : Int32))) 56 9 (fcG (fhI (fhI σ 93 4 ((σ.1 93 4) - (1 : Int32))) 93 3 (fhrem (((σ.1 93 3) + (20 : Int32)) - (1 : Int32)) (20 : Int32))) 96 w2_1)) 96 (w2_1 + (1 : Int32)))) 93 1 (fcG (fhI (fhI (fhI (fhI σ 93 4 ((σ.1 93 4) - (1 : Int32))) 93 3 (fhrem (((σ.1 93 3) + (20 : Int32)) - (1 : Int32)) (20 : Int32))) 56 9 (fcG (fhI (fhI σ 93 4 ((σ.1 93 4) - (1 : Int32))) 93 3 (fhrem (((σ.1 93 3) + (20 : Int32)) - (1 : Int32)) (20 : Int32))) 96 w2_1)) 56 10 (fcG (fhI (fhI (fhI σ 93 4 ((σ.1 93 4) - (1 : Int32))) 93 3 (fhrem (((σ.1 93 3) + (20 : Int32)) - (1 : Int32)) (20 : Int32))) 56 9 (fcG (fhI (fhI σ 93 4 ((σ.1 93 4) - (1 : Int32))) 93 3 (fhrem (((σ.1 93 3) + (20 : Int32)) - (1 : Int32)) (20 : Int32))) 96 w2_1)) 96 (w2_1 + (1 : Int32)))) 96 (w2_1 + (2 : Int32)))) 56 8 (0 : Int32))) _ h hk
  · rw [if_pos hc] at h
    refine fhW.blk fhPF fhLL hΓ [(.iconst 0, 0)] (pc' := 8) (lv' := [(0, .ref 93), (1, .ref 56)]) (st' := [.int (0 : Int32)]) (σ' := σ) (by decide +kernel) rfl rfl rfl ?_
    have e9 := Option.some.inj h
    subst e9
    exact fhW.zret (v := false) hΓ (by decide +kernel) hk
set_option maxRecDepth 100000 in
theorem T_X6_restore {E : fhE} {d : Nat} (hE : fhEok fhYF E) (hd : 4 ≤ d)   (σ : fhM) {o : Bool × fhM} (h : f_X6_restore σ = some o) : fhC fhYF E d miX6_restore [.ref 93, .ref 56] σ (some (.int (fhb o.1))) o.2 := by
  refine fhC.of (y := yX6_restore) (cc := cX6_restore) (nL := 4) (ret := (some .boolean)) 6 rfl (by decide +kernel) (Nat.le_of_ble_eq_true rfl) ?_
  intro Γ hΓ hR hD hEn
  subst hD; subst hEn
  exact L_X6_restore_E hE hΓ hd   σ _ h hR
set_option maxRecDepth 100000 in
set_option maxHeartbeats 4000000 in
theorem L_X11_undo_E {Γ : fhX} (hE : fhEok fhYF (fhEn Γ)) (hΓ : fhOk fhYF 11 cX11_undo 1 (some .boolean) Γ) (hd : 5 ≤ fhD Γ)   (σ : fhM) (o : Bool × fhM) (h : f_X11_undo σ = some o) (hk : (fun o => fhRet Γ (some (.int (fhb o.1))) o.2) o) : fhW fhYF Γ 0 [(0, .ref 0)] [] σ := by
  unfold f_X11_undo at h
  refine fhW.blk fhPF fhLL hΓ [(.aload_n 0, 0), (.getfield 86, 0), (.aload_n 0, 0), (.getfield 72, 0)] (pc' := 8) (lv' := [(0, .ref 0)]) (st' := [.ref 56, .ref 93]) (σ' := σ) (by decide +kernel) rfl rfl rfl ?_
  obtain ⟨q1, hb1, h⟩ := Option.bind_eq_some_iff.mp h
  refine fhW.callv hΓ mvX6_restore ml_11_351 (t := 93) (ci := 6) (av := [.ref 56]) (rest := []) (r := (some (.int (fhb q1.1)))) (σ' := q1.2) (T_X6_restore (E := fhEn Γ) (d := fhD Γ - 1) hE (by omega) σ hb1) (by omega) (by decide +kernel) rfl rfl rfl (Nat.le_of_ble_eq_true rfl) rfl ?_
  show fhW fhYF Γ 11 [(0, .ref 0)] [.int (fhb q1.1)] q1.2
  refine fhW.b_ne hΓ (tgt := 22) (show fhbk _ _ (.ifCond .ne (11)) _ = true by decide +kernel) (fun hc => ?_) (fun hc => ?_)
  · rw [if_pos hc] at h
    refine fhW.blk fhPF fhLL hΓ [(.iconst 1, 1)] (pc' := 23) (lv' := [(0, .ref 0)]) (st' := [.int (1 : Int32)]) (σ' := q1.2) (by decide +kernel) rfl rfl rfl ?_
    have e9 := Option.some.inj h
    subst e9
    exact fhW.zret (v := true) hΓ (by decide +kernel) hk
  · rw [if_neg hc] at h
    refine fhW.blk fhPF fhLL hΓ [(.aload_n 0, 0), (.iconst 4, 4)] (pc' := 16) (lv' := [(0, .ref 0)]) (st' := [.int (4 : Int32), .ref 0]) (σ' := q1.2) (by decide +kernel) rfl rfl rfl ?_
    refine fhW.callv hΓ mvX11_refuse ml_11_106 (t := 0) (ci := 11) (av := [.int (4 : Int32)]) (rest := []) (r := (some (.int (f_X11_refuse (4 : Int32) q1.2).1))) (σ' := (f_X11_refuse (4 : Int32) q1.2).2) (T_X11_refuse (E := fhEn Γ) (d := fhD Γ - 1) hE (by omega) (4 : Int32) q1.2) (by omega) (by decide +kernel) rfl rfl rfl (Nat.le_of_ble_eq_true rfl) rfl ?_
    show fhW fhYF Γ 19 [(0, .ref 0)] [.int (f_X11_refuse (4 : Int32) q1.2).1] (f_X11_refuse (4 : Int32) q1.2).2
    obtain ⟨q2, e1, h⟩ := fhlet_elim h
    rw [← e1]
    refine fhW.blk fhPF fhLL hΓ [(.pop, 0), (.iconst 0, 0)] (pc' := 21) (lv' := [(0, .ref 0)]) (st' := [.int (0 : Int32)]) (σ' := q2.2) (by decide +kernel) rfl rfl rfl ?_
    have e9 := Option.some.inj h
    subst e9
    exact fhW.zret (v := false) hΓ (by decide +kernel) hk
set_option maxRecDepth 100000 in
theorem T_X11_undo {E : fhE} {d : Nat} (hE : fhEok fhYF E) (hd : 5 ≤ d)   (σ : fhM) {o : Bool × fhM} (h : f_X11_undo σ = some o) : fhC fhYF E d miX11_undo [.ref 0] σ (some (.int (fhb o.1))) o.2 := by
  refine fhC.of (y := yX11_undo) (cc := cX11_undo) (nL := 1) (ret := (some .boolean)) 11 rfl (by decide +kernel) (Nat.le_of_ble_eq_true rfl) ?_
  intro Γ hΓ hR hD hEn
  subst hD; subst hEn
  exact L_X11_undo_E hE hΓ hd   σ _ h hR
set_option maxRecDepth 100000 in
set_option maxHeartbeats 4000000 in
theorem L_X11_seed_E {Γ : fhX} (hE : fhEok fhYF (fhEn Γ)) (hΓ : fhOk fhYF 11 cX11_seed 2 (some .boolean) Γ) (hd : 2 ≤ fhD Γ) (v1 : Int32)  (σ : fhM) (o : Bool × fhM) (h : f_X11_seed v1 σ = o) (hk : (fun o => fhRet Γ (some (.int (fhb o.1))) o.2) o) : fhW fhYF Γ 0 [(0, .ref 0), (1, .int v1)] [] σ := by
  unfold f_X11_seed at h
  refine fhW.blk fhPF fhLL hΓ [(.iload_n 1, 0)] (pc' := 1) (lv' := [(0, .ref 0), (1, .int v1)]) (st' := [.int v1]) (σ' := σ) (by decide +kernel) rfl rfl rfl ?_
  refine fhW.z_ge hΓ (tgt := 12) (show fhbk _ _ (.ifCond .ge (11)) _ = true by decide +kernel) (fun hc => ?_) (fun hc => ?_)
  · rw [if_pos hc] at h
    refine fhW.blk fhPF fhLL hΓ [(.aload_n 0, 0), (.iload_n 1, 0), (.putfield 96, 0), (.iconst 1, 1)] (pc' := 18) (lv' := [(0, .ref 0), (1, .int v1)]) (st' := [.int (1 : Int32)]) (σ' := (fhI σ 0 16 v1)) (by decide +kernel) rfl rfl rfl ?_
    subst h
    exact fhW.zret (v := true) hΓ (by decide +kernel) hk
  · rw [if_neg hc] at h
    refine fhW.blk fhPF fhLL hΓ [(.aload_n 0, 0), (.iconst 5, 5)] (pc' := 6) (lv' := [(0, .ref 0), (1, .int v1)]) (st' := [.int (5 : Int32), .ref 0]) (σ' := σ) (by decide +kernel) rfl rfl rfl ?_
    refine fhW.callv hΓ mvX11_refuse ml_11_106 (t := 0) (ci := 11) (av := [.int (5 : Int32)]) (rest := []) (r := (some (.int (f_X11_refuse (5 : Int32) σ).1))) (σ' := (f_X11_refuse (5 : Int32) σ).2) (T_X11_refuse (E := fhEn Γ) (d := fhD Γ - 1) hE (by omega) (5 : Int32) σ) (by omega) (by decide +kernel) rfl rfl rfl (Nat.le_of_ble_eq_true rfl) rfl ?_
    show fhW fhYF Γ 9 [(0, .ref 0), (1, .int v1)] [.int (f_X11_refuse (5 : Int32) σ).1] (f_X11_refuse (5 : Int32) σ).2
    obtain ⟨q1, e1, h⟩ := fhlet_elim h
    rw [← e1]
    refine fhW.blk fhPF fhLL hΓ [(.pop, 0), (.iconst 0, 0)] (pc' := 11) (lv' := [(0, .ref 0), (1, .int v1)]) (st' := [.int (0 : Int32)]) (σ' := q1.2) (by decide +kernel) rfl rfl rfl ?_
    subst h
    exact fhW.zret (v := false) hΓ (by decide +kernel) hk
set_option maxRecDepth 100000 in
theorem T_X11_seed {E : fhE} {d : Nat} (hE : fhEok fhYF E) (hd : 2 ≤ d) (v1 : Int32)  (σ : fhM) : fhC fhYF E d miX11_seed [.ref 0, .int v1] σ (some (.int (fhb (f_X11_seed v1 σ).1))) (f_X11_seed v1 σ).2 := by
  refine fhC.of (y := yX11_seed) (cc := cX11_seed) (nL := 2) (ret := (some .boolean)) 11 rfl (by decide +kernel) (Nat.le_of_ble_eq_true rfl) ?_
  intro Γ hΓ hR hD hEn
  subst hD; subst hEn
  exact L_X11_seed_E hE hΓ hd v1  σ _ rfl hR
set_option maxRecDepth 100000 in
set_option maxHeartbeats 4000000 in
theorem L_X10_fillFromGuest_109 {Γ : fhX} (hE : fhEok fhYF (fhEn Γ)) (hΓ : fhOk fhYF 10 cX10_fillFromGuest 6 none Γ) (hd : 4 ≤ fhD Γ) (v3 : Int32) (v4 : Int32) (v5 : Int32)  (σ : fhM) (o : (Int32 × fhM) ⊕ (fhM)) (h : f_X10_fillFromGuest_109 v3 v4 v5 σ = some o) (hk : (fhK (fun x => fhW fhYF Γ 109 [(0, .ref 10), (3, .int v3), (4, .int v4), (5, .int x.1)] [] x.2) (fun o => fhRet Γ none o)) o) : fhW fhYF Γ 109 [(0, .ref 10), (3, .int v3), (4, .int v4), (5, .int v5)] [] σ := by
  unfold f_X10_fillFromGuest_109 at h
  refine fhW.blk fhPF fhLL hΓ [(.iload 5, 0), (.iconst 5, 5)] (pc' := 112) (lv' := [(0, .ref 10), (3, .int v3), (4, .int v4), (5, .int v5)]) (st' := [.int (5 : Int32), .int v5]) (σ' := σ) (by decide +kernel) rfl rfl rfl ?_
  refine fhW.i_ge hΓ (tgt := 158) (show fhbk _ _ (.if_icmp .ge (46)) _ = true by decide +kernel) (fun hc => ?_) (fun hc => ?_)
  · rw [if_pos hc] at h
    have e9 := Option.some.inj h
    subst e9
    exact fhW.vret hΓ (by decide +kernel) hk
  · rw [if_neg hc] at h
    refine fhW.blk fhPF fhLL hΓ [(.aload_n 0, 0), (.getfield 14, 0), (.bipush 20, 20), (.iload 5, 0), (.iadd, 0), (.iload_n 3, 0), (.iload 5, 0), (.ishr, 0), (.iconst 1, 1), (.iand, 0)] (pc' := 130) (lv' := [(0, .ref 10), (3, .int v3), (4, .int v4), (5, .int v5)]) (st' := [.int ((v3 >>> (v5 &&& 31)) &&& (1 : Int32)), .int ((20 : Int32) + v5), .ref 11]) (σ' := σ) (by decide +kernel) rfl rfl rfl ?_
    refine fhW.callv hΓ mvX2_put ml_10_26 (t := 11) (ci := 2) (av := [.int ((20 : Int32) + v5), .int ((v3 >>> (v5 &&& 31)) &&& (1 : Int32))]) (rest := []) (r := none) (σ' := (fcP σ 11 ((20 : Int32) + v5) ((v3 >>> (v5 &&& 31)) &&& (1 : Int32)))) (T_X2_put (E := fhEn Γ) (d := fhD Γ - 1) hE (by omega) 11 ((20 : Int32) + v5) ((v3 >>> (v5 &&& 31)) &&& (1 : Int32)) rfl σ) (by omega) (by decide +kernel) rfl rfl rfl (Nat.le_of_ble_eq_true rfl) rfl ?_
    show fhW fhYF Γ 133 [(0, .ref 10), (3, .int v3), (4, .int v4), (5, .int v5)] [] (fcP σ 11 ((20 : Int32) + v5) ((v3 >>> (v5 &&& 31)) &&& (1 : Int32)))
    refine fhW.blk fhPF fhLL hΓ [(.aload_n 0, 0), (.getfield 14, 0), (.bipush 25, 25), (.iload 5, 0), (.iadd, 0), (.iload 4, 0), (.iload 5, 0), (.ishr, 0), (.iconst 1, 1), (.iand, 0)] (pc' := 149) (lv' := [(0, .ref 10), (3, .int v3), (4, .int v4), (5, .int v5)]) (st' := [.int ((v4 >>> (v5 &&& 31)) &&& (1 : Int32)), .int ((25 : Int32) + v5), .ref 11]) (σ' := (fcP σ 11 ((20 : Int32) + v5) ((v3 >>> (v5 &&& 31)) &&& (1 : Int32)))) (by decide +kernel) rfl rfl rfl ?_
    refine fhW.callv hΓ mvX2_put ml_10_26 (t := 11) (ci := 2) (av := [.int ((25 : Int32) + v5), .int ((v4 >>> (v5 &&& 31)) &&& (1 : Int32))]) (rest := []) (r := none) (σ' := (fcP (fcP σ 11 ((20 : Int32) + v5) ((v3 >>> (v5 &&& 31)) &&& (1 : Int32))) 11 ((25 : Int32) + v5) ((v4 >>> (v5 &&& 31)) &&& (1 : Int32)))) (T_X2_put (E := fhEn Γ) (d := fhD Γ - 1) hE (by omega) 11 ((25 : Int32) + v5) ((v4 >>> (v5 &&& 31)) &&& (1 : Int32)) rfl (fcP σ 11 ((20 : Int32) + v5) ((v3 >>> (v5 &&& 31)) &&& (1 : Int32)))) (by omega) (by decide +kernel) rfl rfl rfl (Nat.le_of_ble_eq_true rfl) rfl ?_
    show fhW fhYF Γ 152 [(0, .ref 10), (3, .int v3), (4, .int v4), (5, .int v5)] [] (fcP (fcP σ 11 ((20 : Int32) + v5) ((v3 >>> (v5 &&& 31)) &&& (1 : Int32))) 11 ((25 : Int32) + v5) ((v4 >>> (v5 &&& 31)) &&& (1 : Int32)))
    refine fhW.blk fhPF fhLL hΓ [(.iinc 5 1, 1)] (pc' := 155) (lv' := [(5, .int (v5 + (1 : Int32))), (0, .ref 10), (3, .int v3), (4, .int v4)]) (st' := []) (σ' := (fcP (fcP σ 11 ((20 : Int32) + v5) ((v3 >>> (v5 &&& 31)) &&& (1 : Int32))) 11 ((25 : Int32) + v5) ((v4 >>> (v5 &&& 31)) &&& (1 : Int32)))) (by decide +kernel) rfl rfl rfl ?_
    refine fhW.goto hΓ (off := (-46)) (tgt := 109) (by decide +kernel) ?_
    refine fhW.sub (lv' := [(0, .ref 10), (3, .int v3), (4, .int v4), (5, .int (v5 + (1 : Int32)))]) [1, 2, 3, 0] rfl ?_
    have e9 := Option.some.inj h
    subst e9
    exact hk
set_option maxRecDepth 100000 in
set_option maxHeartbeats 4000000 in
theorem L_X10_fillFromGuest_71 {Γ : fhX} (hE : fhEok fhYF (fhEn Γ)) (hΓ : fhOk fhYF 10 cX10_fillFromGuest 6 none Γ) (hd : 4 ≤ fhD Γ) (v2 : Int32) (s0 : Int32) (s1 : Int32)  (σ : fhM) (o : fhM) (h : f_X10_fillFromGuest_71 v2 s0 s1 σ = some o) (hk : (fun o => fhRet Γ none o) o) : fhW fhYF Γ 71 [(0, .ref 10), (1, .ref 56), (2, .int v2)] [.int s0, .int s1, .ref 11] σ := by
  unfold f_X10_fillFromGuest_71 at h
  refine fhW.callv hΓ mvX2_put ml_10_26 (t := 11) (ci := 2) (av := [.int s1, .int s0]) (rest := []) (r := none) (σ' := (fcP σ 11 s1 s0)) (T_X2_put (E := fhEn Γ) (d := fhD Γ - 1) hE (by omega) 11 s1 s0 rfl σ) (by omega) (by decide +kernel) rfl rfl rfl (Nat.le_of_ble_eq_true rfl) rfl ?_
  show fhW fhYF Γ 74 [(0, .ref 10), (1, .ref 56), (2, .int v2)] [] (fcP σ 11 s1 s0)
  refine fhW.blk fhPF fhLL hΓ [(.aload_n 0, 0), (.getfield 14, 0), (.bipush 14, 14), (.aload_n 1, 0), (.getfield 68, 0)] (pc' := 84) (lv' := [(0, .ref 10), (1, .ref 56), (2, .int v2)]) (st' := [.int (σ.1 56 10), .int (14 : Int32), .ref 11]) (σ' := (fcP σ 11 s1 s0)) (by decide +kernel) rfl rfl rfl ?_
  refine fhW.callv hΓ mvX2_put ml_10_26 (t := 11) (ci := 2) (av := [.int (14 : Int32), .int (σ.1 56 10)]) (rest := []) (r := none) (σ' := (fcP (fcP σ 11 s1 s0) 11 (14 : Int32) (σ.1 56 10))) (T_X2_put (E := fhEn Γ) (d := fhD Γ - 1) hE (by omega) 11 (14 : Int32) (σ.1 56 10) rfl (fcP σ 11 s1 s0)) (by omega) (by decide +kernel) rfl rfl rfl (Nat.le_of_ble_eq_true rfl) rfl ?_
  show fhW fhYF Γ 87 [(0, .ref 10), (1, .ref 56), (2, .int v2)] [] (fcP (fcP σ 11 s1 s0) 11 (14 : Int32) (σ.1 56 10))
  refine fhW.blk fhPF fhLL hΓ [(.aload_n 1, 0), (.getfield 46, 0), (.getfield 71, 0), (.iload_n 2, 0)] (pc' := 95) (lv' := [(0, .ref 10), (1, .ref 56), (2, .int v2)]) (st' := [.int v2, .ref 50]) (σ' := (fcP (fcP σ 11 s1 s0) 11 (14 : Int32) (σ.1 56 10))) (by decide +kernel) rfl rfl rfl ?_
  refine fhW.callv hΓ mvX2_get ml_10_30 (t := 50) (ci := 2) (av := [.int v2]) (rest := []) (r := (some (.int (fcG (fcP (fcP σ 11 s1 s0) 11 (14 : Int32) (σ.1 56 10)) 50 v2)))) (σ' := (fcP (fcP σ 11 s1 s0) 11 (14 : Int32) (σ.1 56 10))) (T_X2_get (E := fhEn Γ) (d := fhD Γ - 1) hE (by omega) 50 v2 rfl (fcP (fcP σ 11 s1 s0) 11 (14 : Int32) (σ.1 56 10))) (by omega) (by decide +kernel) rfl rfl rfl (Nat.le_of_ble_eq_true rfl) rfl ?_
  show fhW fhYF Γ 98 [(0, .ref 10), (1, .ref 56), (2, .int v2)] [.int (fcG (fcP (fcP σ 11 s1 s0) 11 (14 : Int32) (σ.1 56 10)) 50 v2)] (fcP (fcP σ 11 s1 s0) 11 (14 : Int32) (σ.1 56 10))
  refine fhW.blk fhPF fhLL hΓ [(.istore_n 3, 0)] (pc' := 99) (lv' := [(3, .int (fcG (fcP (fcP σ 11 s1 s0) 11 (14 : Int32) (σ.1 56 10)) 50 v2)), (0, .ref 10), (1, .ref 56), (2, .int v2)]) (st' := []) (σ' := (fcP (fcP σ 11 s1 s0) 11 (14 : Int32) (σ.1 56 10))) (by decide +kernel) rfl rfl rfl ?_
  obtain ⟨w3_1, e1, h⟩ := fhlet_elim h
  rw [← e1]
  refine fhW.blk fhPF fhLL hΓ [(.aload_n 1, 0), (.iload_n 2, 0)] (pc' := 101) (lv' := [(3, .int w3_1), (0, .ref 10), (1, .ref 56), (2, .int v2)]) (st' := [.int v2, .ref 56]) (σ' := (fcP (fcP σ 11 s1 s0) 11 (14 : Int32) (σ.1 56 10))) (by decide +kernel) rfl rfl rfl ?_
  obtain ⟨q2, hb1, h⟩ := Option.bind_eq_some_iff.mp h
  refine fhW.callv hΓ mvX4_marksHeld ml_10_74 (t := 56) (ci := 4) (av := [.int v2]) (rest := []) (r := (some (.int q2))) (σ' := (fcP (fcP σ 11 s1 s0) 11 (14 : Int32) (σ.1 56 10))) (T_X4_marksHeld (E := fhEn Γ) (d := fhD Γ - 1) hE (by omega) v2 (fcP (fcP σ 11 s1 s0) 11 (14 : Int32) (σ.1 56 10)) hb1) (by omega) (by decide +kernel) rfl rfl rfl (Nat.le_of_ble_eq_true rfl) rfl ?_
  show fhW fhYF Γ 104 [(3, .int w3_1), (0, .ref 10), (1, .ref 56), (2, .int v2)] [.int q2] (fcP (fcP σ 11 s1 s0) 11 (14 : Int32) (σ.1 56 10))
  refine fhW.blk fhPF fhLL hΓ [(.istore 4, 0), (.iconst 0, 0), (.istore 5, 0)] (pc' := 109) (lv' := [(5, .int (0 : Int32)), (4, .int q2), (3, .int w3_1), (0, .ref 10), (1, .ref 56), (2, .int v2)]) (st' := []) (σ' := (fcP (fcP σ 11 s1 s0) 11 (14 : Int32) (σ.1 56 10))) (by decide +kernel) rfl rfl rfl ?_
  refine fhW.sub (lv' := [(0, .ref 10), (3, .int w3_1), (4, .int q2), (5, .int (0 : Int32))]) [3, 2, 1, 0] rfl ?_
  exact fhlp_ok (W := (fun x => fhW fhYF Γ 109 [(0, .ref 10), (3, .int w3_1), (4, .int q2), (5, .int x.1)] [] x.2)) (B := (fun o => fhRet Γ none o)) (fun x o h hk => L_X10_fillFromGuest_109 hE hΓ hd w3_1 q2 x.1 x.2 o h hk) ((0 : Int32), (fcP (fcP σ 11 s1 s0) 11 (14 : Int32) (σ.1 56 10))) _ h hk
set_option maxRecDepth 100000 in
set_option maxHeartbeats 4000000 in
theorem L_X10_fillFromGuest_E {Γ : fhX} (hE : fhEok fhYF (fhEn Γ)) (hΓ : fhOk fhYF 10 cX10_fillFromGuest 6 none Γ) (hd : 4 ≤ fhD Γ) (v2 : Int32)  (σ : fhM) (o : fhM) (h : f_X10_fillFromGuest v2 σ = some o) (hk : (fun o => fhRet Γ none o) o) : fhW fhYF Γ 0 [(0, .ref 10), (1, .ref 56), (2, .int v2)] [] σ := by
  unfold f_X10_fillFromGuest at h
  refine fhW.blk fhPF fhLL hΓ [(.aload_n 0, 0), (.getfield 14, 0)] (pc' := 4) (lv' := [(0, .ref 10), (1, .ref 56), (2, .int v2)]) (st' := [.ref 11]) (σ' := σ) (by decide +kernel) rfl rfl rfl ?_
  refine fhW.callv hΓ mvX2_wipe ml_10_23 (t := 11) (ci := 2) (av := []) (rest := []) (r := none) (σ' := (fcW σ 11)) (T_X2_wipe (E := fhEn Γ) (d := fhD Γ - 1) hE (by omega) 11 rfl σ) (by omega) (by decide +kernel) rfl rfl rfl (Nat.le_of_ble_eq_true rfl) rfl ?_
  show fhW fhYF Γ 7 [(0, .ref 10), (1, .ref 56), (2, .int v2)] [] (fcW σ 11)
  refine fhW.blk fhPF fhLL hΓ [(.aload_n 0, 0), (.getfield 14, 0), (.bipush 10, 10), (.iload_n 2, 0)] (pc' := 14) (lv' := [(0, .ref 10), (1, .ref 56), (2, .int v2)]) (st' := [.int v2, .int (10 : Int32), .ref 11]) (σ' := (fcW σ 11)) (by decide +kernel) rfl rfl rfl ?_
  refine fhW.callv hΓ mvX2_put ml_10_26 (t := 11) (ci := 2) (av := [.int (10 : Int32), .int v2]) (rest := []) (r := none) (σ' := (fcP (fcW σ 11) 11 (10 : Int32) v2)) (T_X2_put (E := fhEn Γ) (d := fhD Γ - 1) hE (by omega) 11 (10 : Int32) v2 rfl (fcW σ 11)) (by omega) (by decide +kernel) rfl rfl rfl (Nat.le_of_ble_eq_true rfl) rfl ?_
  show fhW fhYF Γ 17 [(0, .ref 10), (1, .ref 56), (2, .int v2)] [] (fcP (fcW σ 11) 11 (10 : Int32) v2)
  refine fhW.blk fhPF fhLL hΓ [(.aload_n 0, 0), (.getfield 14, 0), (.bipush 11, 11), (.aload_n 1, 0), (.getfield 46, 0), (.aload_n 1, 0), (.getfield 52, 0), (.iload_n 2, 0)] (pc' := 32) (lv' := [(0, .ref 10), (1, .ref 56), (2, .int v2)]) (st' := [.int v2, .int (σ.1 56 9), .ref 39, .int (11 : Int32), .ref 11]) (σ' := (fcP (fcW σ 11) 11 (10 : Int32) v2)) (by decide +kernel) rfl rfl rfl ?_
  refine fhW.callv hΓ mvX9_markOf ml_10_56 (t := 39) (ci := 9) (av := [.int (σ.1 56 9), .int v2]) (rest := [.int (11 : Int32), .ref 11]) (r := (some (.int (f_X9_markOf (σ.1 56 9) v2 (fcP (fcW σ 11) 11 (10 : Int32) v2))))) (σ' := (fcP (fcW σ 11) 11 (10 : Int32) v2)) (T_X9_markOf (E := fhEn Γ) (d := fhD Γ - 1) hE (by omega) (σ.1 56 9) v2 (fcP (fcW σ 11) 11 (10 : Int32) v2)) (by omega) (by decide +kernel) rfl rfl rfl (Nat.le_of_ble_eq_true rfl) rfl ?_
  show fhW fhYF Γ 35 [(0, .ref 10), (1, .ref 56), (2, .int v2)] [.int (f_X9_markOf (σ.1 56 9) v2 (fcP (fcW σ 11) 11 (10 : Int32) v2)), .int (11 : Int32), .ref 11] (fcP (fcW σ 11) 11 (10 : Int32) v2)
  refine fhW.callv hΓ mvX2_put ml_10_26 (t := 11) (ci := 2) (av := [.int (11 : Int32), .int (f_X9_markOf (σ.1 56 9) v2 (fcP (fcW σ 11) 11 (10 : Int32) v2))]) (rest := []) (r := none) (σ' := (fcP (fcP (fcW σ 11) 11 (10 : Int32) v2) 11 (11 : Int32) (f_X9_markOf (σ.1 56 9) v2 (fcP (fcW σ 11) 11 (10 : Int32) v2)))) (T_X2_put (E := fhEn Γ) (d := fhD Γ - 1) hE (by omega) 11 (11 : Int32) (f_X9_markOf (σ.1 56 9) v2 (fcP (fcW σ 11) 11 (10 : Int32) v2)) rfl (fcP (fcW σ 11) 11 (10 : Int32) v2)) (by omega) (by decide +kernel) rfl rfl rfl (Nat.le_of_ble_eq_true rfl) rfl ?_
  show fhW fhYF Γ 38 [(0, .ref 10), (1, .ref 56), (2, .int v2)] [] (fcP (fcP (fcW σ 11) 11 (10 : Int32) v2) 11 (11 : Int32) (f_X9_markOf (σ.1 56 9) v2 (fcP (fcW σ 11) 11 (10 : Int32) v2)))
  refine fhW.blk fhPF fhLL hΓ [(.aload_n 0, 0), (.getfield 14, 0), (.bipush 12, 12), (.aload_n 1, 0), (.iload_n 2, 0)] (pc' := 46) (lv' := [(0, .ref 10), (1, .ref 56), (2, .int v2)]) (st' := [.int v2, .ref 56, .int (12 : Int32), .ref 11]) (σ' := (fcP (fcP (fcW σ 11) 11 (10 : Int32) v2) 11 (11 : Int32) (f_X9_markOf (σ.1 56 9) v2 (fcP (fcW σ 11) 11 (10 : Int32) v2)))) (by decide +kernel) rfl rfl rfl ?_
  obtain ⟨q1, hb2, h⟩ := Option.bind_eq_some_iff.mp h
  refine fhW.callv hΓ mvX4_countRowsOf ml_10_61 (t := 56) (ci := 4) (av := [.int v2]) (rest := [.int (12 : Int32), .ref 11]) (r := (some (.int q1))) (σ' := (fcP (fcP (fcW σ 11) 11 (10 : Int32) v2) 11 (11 : Int32) (f_X9_markOf (σ.1 56 9) v2 (fcP (fcW σ 11) 11 (10 : Int32) v2)))) (T_X4_countRowsOf (E := fhEn Γ) (d := fhD Γ - 1) hE (by omega) v2 (fcP (fcP (fcW σ 11) 11 (10 : Int32) v2) 11 (11 : Int32) (f_X9_markOf (σ.1 56 9) v2 (fcP (fcW σ 11) 11 (10 : Int32) v2))) hb2) (by omega) (by decide +kernel) rfl rfl rfl (Nat.le_of_ble_eq_true rfl) rfl ?_
  show fhW fhYF Γ 49 [(0, .ref 10), (1, .ref 56), (2, .int v2)] [.int q1, .int (12 : Int32), .ref 11] (fcP (fcP (fcW σ 11) 11 (10 : Int32) v2) 11 (11 : Int32) (f_X9_markOf (σ.1 56 9) v2 (fcP (fcW σ 11) 11 (10 : Int32) v2)))
  refine fhW.callv hΓ mvX2_put ml_10_26 (t := 11) (ci := 2) (av := [.int (12 : Int32), .int q1]) (rest := []) (r := none) (σ' := (fcP (fcP (fcP (fcW σ 11) 11 (10 : Int32) v2) 11 (11 : Int32) (f_X9_markOf (σ.1 56 9) v2 (fcP (fcW σ 11) 11 (10 : Int32) v2))) 11 (12 : Int32) q1)) (T_X2_put (E := fhEn Γ) (d := fhD Γ - 1) hE (by omega) 11 (12 : Int32) q1 rfl (fcP (fcP (fcW σ 11) 11 (10 : Int32) v2) 11 (11 : Int32) (f_X9_markOf (σ.1 56 9) v2 (fcP (fcW σ 11) 11 (10 : Int32) v2)))) (by omega) (by decide +kernel) rfl rfl rfl (Nat.le_of_ble_eq_true rfl) rfl ?_
  show fhW fhYF Γ 52 [(0, .ref 10), (1, .ref 56), (2, .int v2)] [] (fcP (fcP (fcP (fcW σ 11) 11 (10 : Int32) v2) 11 (11 : Int32) (f_X9_markOf (σ.1 56 9) v2 (fcP (fcW σ 11) 11 (10 : Int32) v2))) 11 (12 : Int32) q1)
  refine fhW.blk fhPF fhLL hΓ [(.aload_n 0, 0), (.getfield 14, 0), (.bipush 13, 13), (.aload_n 1, 0), (.iload_n 2, 0)] (pc' := 60) (lv' := [(0, .ref 10), (1, .ref 56), (2, .int v2)]) (st' := [.int v2, .ref 56, .int (13 : Int32), .ref 11]) (σ' := (fcP (fcP (fcP (fcW σ 11) 11 (10 : Int32) v2) 11 (11 : Int32) (f_X9_markOf (σ.1 56 9) v2 (fcP (fcW σ 11) 11 (10 : Int32) v2))) 11 (12 : Int32) q1)) (by decide +kernel) rfl rfl rfl ?_
  refine fhW.callv hΓ mvX4_isKnower ml_10_64 (t := 56) (ci := 4) (av := [.int v2]) (rest := [.int (13 : Int32), .ref 11]) (r := (some (.int (fhb (f_X4_isKnower v2 (fcP (fcP (fcP (fcW σ 11) 11 (10 : Int32) v2) 11 (11 : Int32) (f_X9_markOf (σ.1 56 9) v2 (fcP (fcW σ 11) 11 (10 : Int32) v2))) 11 (12 : Int32) q1)))))) (σ' := (fcP (fcP (fcP (fcW σ 11) 11 (10 : Int32) v2) 11 (11 : Int32) (f_X9_markOf (σ.1 56 9) v2 (fcP (fcW σ 11) 11 (10 : Int32) v2))) 11 (12 : Int32) q1)) (T_X4_isKnower (E := fhEn Γ) (d := fhD Γ - 1) hE (by omega) v2 (fcP (fcP (fcP (fcW σ 11) 11 (10 : Int32) v2) 11 (11 : Int32) (f_X9_markOf (σ.1 56 9) v2 (fcP (fcW σ 11) 11 (10 : Int32) v2))) 11 (12 : Int32) q1)) (by omega) (by decide +kernel) rfl rfl rfl (Nat.le_of_ble_eq_true rfl) rfl ?_
  show fhW fhYF Γ 63 [(0, .ref 10), (1, .ref 56), (2, .int v2)] [.int (fhb (f_X4_isKnower v2 (fcP (fcP (fcP (fcW σ 11) 11 (10 : Int32) v2) 11 (11 : Int32) (f_X9_markOf (σ.1 56 9) v2 (fcP (fcW σ 11) 11 (10 : Int32) v2))) 11 (12 : Int32) q1))), .int (13 : Int32), .ref 11] (fcP (fcP (fcP (fcW σ 11) 11 (10 : Int32) v2) 11 (11 : Int32) (f_X9_markOf (σ.1 56 9) v2 (fcP (fcW σ 11) 11 (10 : Int32) v2))) 11 (12 : Int32) q1)
  refine fhW.b_eq hΓ (tgt := 70) (show fhbk _ _ (.ifCond .eq (7)) _ = true by decide +kernel) (fun hc => ?_) (fun hc => ?_)
  · simp only [if_neg hc] at h
    refine fhW.blk fhPF fhLL hΓ [(.iconst 0, 0)] (pc' := 71) (lv' := [(0, .ref 10), (1, .ref 56), (2, .int v2)]) (st' := [.int (0 : Int32), .int (13 : Int32), .ref 11]) (σ' := (fcP (fcP (fcP (fcW σ 11) 11 (10 : Int32) v2) 11 (11 : Int32) (f_X9_markOf (σ.1 56 9) v2 (fcP (fcW σ 11) 11 (10 : Int32) v2))) 11 (12 : Int32) q1)) (by decide +kernel) rfl rfl rfl ?_
    refine fhW.sub (lv' := [(0, .ref 10), (1, .ref 56), (2, .int v2)]) [0, 1, 2] rfl ?_
    exact L_X10_fillFromGuest_71 hE hΓ hd v2 (0 : Int32) (13 : Int32) (fcP (fcP (fcP (fcW σ 11) 11 (10 : Int32) v2) 11 (11 : Int32) (f_X9_markOf (σ.1 56 9) v2 (fcP (fcW σ 11) 11 (10 : Int32) v2))) 11 (12 : Int32) q1) _ h hk
  · simp only [if_pos hc] at h
    refine fhW.blk fhPF fhLL hΓ [(.iconst 1, 1)] (pc' := 67) (lv' := [(0, .ref 10), (1, .ref 56), (2, .int v2)]) (st' := [.int (1 : Int32), .int (13 : Int32), .ref 11]) (σ' := (fcP (fcP (fcP (fcW σ 11) 11 (10 : Int32) v2) 11 (11 : Int32) (f_X9_markOf (σ.1 56 9) v2 (fcP (fcW σ 11) 11 (10 : Int32) v2))) 11 (12 : Int32) q1)) (by decide +kernel) rfl rfl rfl ?_
    refine fhW.goto hΓ (off := 4) (tgt := 71) (by decide +kernel) ?_
    refine fhW.sub (lv' := [(0, .ref 10), (1, .ref 56), (2, .int v2)]) [0, 1, 2] rfl ?_
    exact L_X10_fillFromGuest_71 hE hΓ hd v2 (1 : Int32) (13 : Int32) (fcP (fcP (fcP (fcW σ 11) 11 (10 : Int32) v2) 11 (11 : Int32) (f_X9_markOf (σ.1 56 9) v2 (fcP (fcW σ 11) 11 (10 : Int32) v2))) 11 (12 : Int32) q1) _ h hk
set_option maxRecDepth 100000 in
theorem T_X10_fillFromGuest {E : fhE} {d : Nat} (hE : fhEok fhYF E) (hd : 4 ≤ d) (v2 : Int32)  (σ : fhM) {o : fhM} (h : f_X10_fillFromGuest v2 σ = some o) : fhC fhYF E d miX10_fillFromGuest [.ref 10, .ref 56, .int v2] σ none o := by
  refine fhC.of (y := yX10_fillFromGuest) (cc := cX10_fillFromGuest) (nL := 6) (ret := none) 10 rfl (by decide +kernel) (Nat.le_of_ble_eq_true rfl) ?_
  intro Γ hΓ hR hD hEn
  subst hD; subst hEn
  exact L_X10_fillFromGuest_E hE hΓ hd v2  σ _ h hR
set_option maxRecDepth 100000 in
set_option maxHeartbeats 4000000 in
theorem L_X11_answer_132 {Γ : fhX} (hE : fhEok fhYF (fhEn Γ)) (hΓ : fhOk fhYF 11 cX11_answer 11 (some .long) Γ) (hd : 5 ≤ fhD Γ) (v1 : Int32) (v2 : Int32) (v3 : Int32) (v4 : Int32) (v5 : Int64) (v7 : Int32) (v9 : Int32) (s0 : Int32)  (σ : fhM) (o : (Int32 × Int32 × Int32 × Int64 × Int32 × Int32 × Int32 × fhM) ⊕ (Int64 × fhM)) (h : f_X11_answer_132 v1 v2 v3 v4 v5 v7 v9 s0 σ = some o) (hk : (fhK (fun x => fhW fhYF Γ 19 [(0, .ref 0), (1, .int v1), (2, .int x.1), (3, .int x.2.1), (4, .int x.2.2.1), (5, .long x.2.2.2.1), (7, .int x.2.2.2.2.1), (8, .int x.2.2.2.2.2.1), (9, .int x.2.2.2.2.2.2.1)] [] x.2.2.2.2.2.2.2) (fun o => fhRet Γ (some (.long o.1)) o.2)) o) : fhW fhYF Γ 132 [(0, .ref 0), (1, .int v1), (2, .int v2), (3, .int v3), (4, .int v4), (5, .long v5), (7, .int v7), (9, .int v9)] [.int s0] σ := by
  unfold f_X11_answer_132 at h
  refine fhW.blk fhPF fhLL hΓ [(.istore 8, 0), (.iinc 9 1, 1)] (pc' := 137) (lv' := [(9, .int (v9 + (1 : Int32))), (8, .int s0), (0, .ref 0), (1, .int v1), (2, .int v2), (3, .int v3), (4, .int v4), (5, .long v5), (7, .int v7)]) (st' := []) (σ' := σ) (by decide +kernel) rfl rfl rfl ?_
  refine fhW.goto hΓ (off := (-118)) (tgt := 19) (by decide +kernel) ?_
  refine fhW.sub (lv' := [(0, .ref 0), (1, .int v1), (2, .int v2), (3, .int v3), (4, .int v4), (5, .long v5), (7, .int v7), (8, .int s0), (9, .int (v9 + (1 : Int32)))]) [2, 3, 4, 5, 6, 7, 8, 1, 0] rfl ?_
  have e9 := Option.some.inj h
  subst e9
  exact hk
set_option maxRecDepth 100000 in
set_option maxHeartbeats 4000000 in
theorem L_X11_answer_113 {Γ : fhX} (hE : fhEok fhYF (fhEn Γ)) (hΓ : fhOk fhYF 11 cX11_answer 11 (some .long) Γ) (hd : 5 ≤ fhD Γ) (v1 : Int32) (v2 : Int32) (v3 : Int32) (v4 : Int32) (v5 : Int64) (v8 : Int32) (v9 : Int32) (v10 : Int32) (s0 : Int32)  (σ : fhM) (o : (Int32 × Int32 × Int32 × Int64 × Int32 × Int32 × Int32 × fhM) ⊕ (Int64 × fhM)) (h : f_X11_answer_113 v1 v2 v3 v4 v5 v8 v9 v10 s0 σ = some o) (hk : (fhK (fun x => fhW fhYF Γ 19 [(0, .ref 0), (1, .int v1), (2, .int x.1), (3, .int x.2.1), (4, .int x.2.2.1), (5, .long x.2.2.2.1), (7, .int x.2.2.2.2.1), (8, .int x.2.2.2.2.2.1), (9, .int x.2.2.2.2.2.2.1)] [] x.2.2.2.2.2.2.2) (fun o => fhRet Γ (some (.long o.1)) o.2)) o) : fhW fhYF Γ 113 [(0, .ref 0), (1, .int v1), (2, .int v2), (3, .int v3), (4, .int v4), (5, .long v5), (8, .int v8), (9, .int v9), (10, .int v10)] [.int s0] σ := by
  unfold f_X11_answer_113 at h
  refine fhW.blk fhPF fhLL hΓ [(.istore 7, 0), (.iload 9, 0)] (pc' := 117) (lv' := [(7, .int s0), (0, .ref 0), (1, .int v1), (2, .int v2), (3, .int v3), (4, .int v4), (5, .long v5), (8, .int v8), (9, .int v9), (10, .int v10)]) (st' := [.int v9]) (σ' := σ) (by decide +kernel) rfl rfl rfl ?_
  refine fhW.z_ne hΓ (tgt := 125) (show fhbk _ _ (.ifCond .ne (8)) _ = true by decide +kernel) (fun hc => ?_) (fun hc => ?_)
  · simp only [if_neg hc] at h
    refine fhW.blk fhPF fhLL hΓ [(.iload 8, 0), (.iload 10, 0)] (pc' := 129) (lv' := [(7, .int s0), (0, .ref 0), (1, .int v1), (2, .int v2), (3, .int v3), (4, .int v4), (5, .long v5), (8, .int v8), (9, .int v9), (10, .int v10)]) (st' := [.int v10, .int v8]) (σ' := σ) (by decide +kernel) rfl rfl rfl ?_
    refine fhW.calls hΓ msJ9_min_7cf53 ml_11_384 (av := [.int v8, .int v10]) (rest := []) (r := (some (.int (f_J9_min_7cf53 v8 v10 σ)))) (σ' := σ) (T_J9_min_7cf53 (E := fhEn Γ) (d := fhD Γ - 1) hE (by omega) v8 v10 σ) (by omega) (by decide +kernel) rfl (Nat.le_of_ble_eq_true rfl) rfl ?_
    show fhW fhYF Γ 132 [(7, .int s0), (0, .ref 0), (1, .int v1), (2, .int v2), (3, .int v3), (4, .int v4), (5, .long v5), (8, .int v8), (9, .int v9), (10, .int v10)] [.int (f_J9_min_7cf53 v8 v10 σ)] σ
    refine fhW.sub (lv' := [(0, .ref 0), (1, .int v1), (2, .int v2), (3, .int v3), (4, .int v4), (5, .long v5), (7, .int s0), (9, .int v9)]) [1, 2, 3, 4, 5, 6, 0, 8] rfl ?_
    exact L_X11_answer_132 hE hΓ hd v1 v2 v3 v4 v5 s0 v9 (f_J9_min_7cf53 v8 v10 σ) σ _ h hk
  · simp only [if_pos hc] at h
    refine fhW.blk fhPF fhLL hΓ [(.iload 10, 0)] (pc' := 122) (lv' := [(7, .int s0), (0, .ref 0), (1, .int v1), (2, .int v2), (3, .int v3), (4, .int v4), (5, .long v5), (8, .int v8), (9, .int v9), (10, .int v10)]) (st' := [.int v10]) (σ' := σ) (by decide +kernel) rfl rfl rfl ?_
    refine fhW.goto hΓ (off := 10) (tgt := 132) (by decide +kernel) ?_
    refine fhW.sub (lv' := [(0, .ref 0), (1, .int v1), (2, .int v2), (3, .int v3), (4, .int v4), (5, .long v5), (7, .int s0), (9, .int v9)]) [1, 2, 3, 4, 5, 6, 0, 8] rfl ?_
    exact L_X11_answer_132 hE hΓ hd v1 v2 v3 v4 v5 s0 v9 v10 σ _ h hk
set_option maxRecDepth 100000 in
set_option maxHeartbeats 4000000 in
theorem L_X11_answer_88 {Γ : fhX} (hE : fhEok fhYF (fhEn Γ)) (hΓ : fhOk fhYF 11 cX11_answer 11 (some .long) Γ) (hd : 5 ≤ fhD Γ) (v1 : Int32) (v2 : Int32) (v3 : Int32) (v4 : Int32) (v5 : Int64) (v7 : Int32) (v8 : Int32) (v9 : Int32) (v10 : Int32)  (σ : fhM) (o : (Int32 × Int32 × Int32 × Int64 × Int32 × Int32 × Int32 × fhM) ⊕ (Int64 × fhM)) (h : f_X11_answer_88 v1 v2 v3 v4 v5 v7 v8 v9 v10 σ = some o) (hk : (fhK (fun x => fhW fhYF Γ 19 [(0, .ref 0), (1, .int v1), (2, .int x.1), (3, .int x.2.1), (4, .int x.2.2.1), (5, .long x.2.2.2.1), (7, .int x.2.2.2.2.1), (8, .int x.2.2.2.2.2.1), (9, .int x.2.2.2.2.2.2.1)] [] x.2.2.2.2.2.2.2) (fun o => fhRet Γ (some (.long o.1)) o.2)) o) : fhW fhYF Γ 88 [(0, .ref 0), (1, .int v1), (2, .int v2), (3, .int v3), (4, .int v4), (5, .long v5), (7, .int v7), (8, .int v8), (9, .int v9), (10, .int v10)] [] σ := by
  unfold f_X11_answer_88 at h
  refine fhW.blk fhPF fhLL hΓ [(.lload 5, 0), (.iload 10, 0), (.i2l, 0), (.ladd, 0), (.lstore 5, 0), (.iload 9, 0)] (pc' := 98) (lv' := [(5, .long (v5 + (Int32.toInt64 v10))), (0, .ref 0), (1, .int v1), (2, .int v2), (3, .int v3), (4, .int v4), (7, .int v7), (8, .int v8), (9, .int v9), (10, .int v10)]) (st' := [.int v9]) (σ' := σ) (by decide +kernel) rfl rfl rfl ?_
  refine fhW.z_ne hΓ (tgt := 106) (show fhbk _ _ (.ifCond .ne (8)) _ = true by decide +kernel) (fun hc => ?_) (fun hc => ?_)
  · simp only [if_neg hc] at h
    refine fhW.blk fhPF fhLL hΓ [(.iload 7, 0), (.iload 10, 0)] (pc' := 110) (lv' := [(5, .long (v5 + (Int32.toInt64 v10))), (0, .ref 0), (1, .int v1), (2, .int v2), (3, .int v3), (4, .int v4), (7, .int v7), (8, .int v8), (9, .int v9), (10, .int v10)]) (st' := [.int v10, .int v7]) (σ' := σ) (by decide +kernel) rfl rfl rfl ?_
    refine fhW.calls hΓ msJ9_max_7cf53 ml_11_379 (av := [.int v7, .int v10]) (rest := []) (r := (some (.int (f_J9_max_7cf53 v7 v10 σ)))) (σ' := σ) (T_J9_max_7cf53 (E := fhEn Γ) (d := fhD Γ - 1) hE (by omega) v7 v10 σ) (by omega) (by decide +kernel) rfl (Nat.le_of_ble_eq_true rfl) rfl ?_
    show fhW fhYF Γ 113 [(5, .long (v5 + (Int32.toInt64 v10))), (0, .ref 0), (1, .int v1), (2, .int v2), (3, .int v3), (4, .int v4), (7, .int v7), (8, .int v8), (9, .int v9), (10, .int v10)] [.int (f_J9_max_7cf53 v7 v10 σ)] σ
    refine fhW.sub (lv' := [(0, .ref 0), (1, .int v1), (2, .int v2), (3, .int v3), (4, .int v4), (5, .long (v5 + (Int32.toInt64 v10))), (8, .int v8), (9, .int v9), (10, .int v10)]) [1, 2, 3, 4, 5, 0, 7, 8, 9] rfl ?_
    exact L_X11_answer_113 hE hΓ hd v1 v2 v3 v4 (v5 + (Int32.toInt64 v10)) v8 v9 v10 (f_J9_max_7cf53 v7 v10 σ) σ _ h hk
  · simp only [if_pos hc] at h
    refine fhW.blk fhPF fhLL hΓ [(.iload 10, 0)] (pc' := 103) (lv' := [(5, .long (v5 + (Int32.toInt64 v10))), (0, .ref 0), (1, .int v1), (2, .int v2), (3, .int v3), (4, .int v4), (7, .int v7), (8, .int v8), (9, .int v9), (10, .int v10)]) (st' := [.int v10]) (σ' := σ) (by decide +kernel) rfl rfl rfl ?_
    refine fhW.goto hΓ (off := 10) (tgt := 113) (by decide +kernel) ?_
    refine fhW.sub (lv' := [(0, .ref 0), (1, .int v1), (2, .int v2), (3, .int v3), (4, .int v4), (5, .long (v5 + (Int32.toInt64 v10))), (8, .int v8), (9, .int v9), (10, .int v10)]) [1, 2, 3, 4, 5, 0, 7, 8, 9] rfl ?_
    exact L_X11_answer_113 hE hΓ hd v1 v2 v3 v4 (v5 + (Int32.toInt64 v10)) v8 v9 v10 v10 σ _ h hk
set_option maxRecDepth 100000 in
set_option maxHeartbeats 4000000 in
theorem L_X11_answer_81 {Γ : fhX} (hE : fhEok fhYF (fhEn Γ)) (hΓ : fhOk fhYF 11 cX11_answer 11 (some .long) Γ) (hd : 5 ≤ fhD Γ) (v1 : Int32) (v4 : Int32) (v5 : Int64) (v7 : Int32) (v8 : Int32) (v9 : Int32) (v10 : Int32) (s0 : Int32)  (σ : fhM) (o : (Int32 × Int32 × Int32 × Int64 × Int32 × Int32 × Int32 × fhM) ⊕ (Int64 × fhM)) (h : f_X11_answer_81 v1 v4 v5 v7 v8 v9 v10 s0 σ = some o) (hk : (fhK (fun x => fhW fhYF Γ 19 [(0, .ref 0), (1, .int v1), (2, .int x.1), (3, .int x.2.1), (4, .int x.2.2.1), (5, .long x.2.2.2.1), (7, .int x.2.2.2.2.1), (8, .int x.2.2.2.2.2.1), (9, .int x.2.2.2.2.2.2.1)] [] x.2.2.2.2.2.2.2) (fun o => fhRet Γ (some (.long o.1)) o.2)) o) : fhW fhYF Γ 81 [(0, .ref 0), (1, .int v1), (4, .int v4), (5, .long v5), (7, .int v7), (8, .int v8), (9, .int v9), (10, .int v10)] [.int s0] σ := by
  unfold f_X11_answer_81 at h
  refine fhW.blk fhPF fhLL hΓ [(.istore_n 2, 0), (.iload 9, 0), (.istore_n 3, 0), (.iinc 4 1, 1)] (pc' := 88) (lv' := [(4, .int (v4 + (1 : Int32))), (3, .int v9), (2, .int s0), (0, .ref 0), (1, .int v1), (5, .long v5), (7, .int v7), (8, .int v8), (9, .int v9), (10, .int v10)]) (st' := []) (σ' := σ) (by decide +kernel) rfl rfl rfl ?_
  refine fhW.sub (lv' := [(0, .ref 0), (1, .int v1), (2, .int s0), (3, .int v9), (4, .int (v4 + (1 : Int32))), (5, .long v5), (7, .int v7), (8, .int v8), (9, .int v9), (10, .int v10)]) [3, 4, 2, 1, 0, 5, 6, 7, 8, 9] rfl ?_
  exact L_X11_answer_88 hE hΓ hd v1 s0 v9 (v4 + (1 : Int32)) v5 v7 v8 v9 v10 σ _ h hk
set_option maxRecDepth 100000 in
set_option maxHeartbeats 4000000 in
theorem L_X11_answer_19 {Γ : fhX} (hE : fhEok fhYF (fhEn Γ)) (hΓ : fhOk fhYF 11 cX11_answer 11 (some .long) Γ) (hd : 5 ≤ fhD Γ) (v1 : Int32) (v2 : Int32) (v3 : Int32) (v4 : Int32) (v5 : Int64) (v7 : Int32) (v8 : Int32) (v9 : Int32)  (σ : fhM) (o : (Int32 × Int32 × Int32 × Int64 × Int32 × Int32 × Int32 × fhM) ⊕ (Int64 × fhM)) (h : f_X11_answer_19 v1 v2 v3 v4 v5 v7 v8 v9 σ = some o) (hk : (fhK (fun x => fhW fhYF Γ 19 [(0, .ref 0), (1, .int v1), (2, .int x.1), (3, .int x.2.1), (4, .int x.2.2.1), (5, .long x.2.2.2.1), (7, .int x.2.2.2.2.1), (8, .int x.2.2.2.2.2.1), (9, .int x.2.2.2.2.2.2.1)] [] x.2.2.2.2.2.2.2) (fun o => fhRet Γ (some (.long o.1)) o.2)) o) : fhW fhYF Γ 19 [(0, .ref 0), (1, .int v1), (2, .int v2), (3, .int v3), (4, .int v4), (5, .long v5), (7, .int v7), (8, .int v8), (9, .int v9)] [] σ := by
  unfold f_X11_answer_19 at h
  refine fhW.blk fhPF fhLL hΓ [(.iload 9, 0), (.aload_n 0, 0), (.getfield 63, 0), (.getfield 166, 0)] (pc' := 28) (lv' := [(0, .ref 0), (1, .int v1), (2, .int v2), (3, .int v3), (4, .int v4), (5, .long v5), (7, .int v7), (8, .int v8), (9, .int v9)]) (st' := [.int (σ.1 39 9), .int v9]) (σ' := σ) (by decide +kernel) rfl rfl rfl ?_
  refine fhW.i_ge hΓ (tgt := 140) (show fhbk _ _ (.if_icmp .ge (112)) _ = true by decide +kernel) (fun hc => ?_) (fun hc => ?_)
  · rw [if_pos hc] at h
    refine fhW.blk fhPF fhLL hΓ [(.iload_n 1, 0)] (pc' := 141) (lv' := [(0, .ref 0), (1, .int v1), (2, .int v2), (3, .int v3), (4, .int v4), (5, .long v5), (7, .int v7), (8, .int v8), (9, .int v9)]) (st' := [.int v1]) (σ' := σ) (by decide +kernel) rfl rfl rfl ?_
    refine fhW.tsw hΓ (dflt := 52) (lo := 26) (hi := 30) (offs := #[35, 38, 41, 45, 48]) (len := 35) (td := 193) [(26, 176), (27, 179), (28, 182), (29, 186), (30, 189)] (by decide +kernel) ?_
    refine fhsw_c (fun hc => ?_) (fun hc => ?_)
    · rw [if_pos hc] at h
      refine fhW.blk fhPF fhLL hΓ [(.iload_n 2, 0), (.i2l, 0)] (pc' := 178) (lv' := [(0, .ref 0), (1, .int v1), (2, .int v2), (3, .int v3), (4, .int v4), (5, .long v5), (7, .int v7), (8, .int v8), (9, .int v9)]) (st' := [.long (Int32.toInt64 v2)]) (σ' := σ) (by decide +kernel) rfl rfl rfl ?_
      have e9 := Option.some.inj h
      subst e9
      exact fhW.lret hΓ (by decide +kernel) hk
    rw [if_neg hc] at h
    refine fhsw_c (fun hc => ?_) (fun hc => ?_)
    · rw [if_pos hc] at h
      refine fhW.blk fhPF fhLL hΓ [(.iload_n 3, 0), (.i2l, 0)] (pc' := 181) (lv' := [(0, .ref 0), (1, .int v1), (2, .int v2), (3, .int v3), (4, .int v4), (5, .long v5), (7, .int v7), (8, .int v8), (9, .int v9)]) (st' := [.long (Int32.toInt64 v3)]) (σ' := σ) (by decide +kernel) rfl rfl rfl ?_
      have e9 := Option.some.inj h
      subst e9
      exact fhW.lret hΓ (by decide +kernel) hk
    rw [if_neg hc] at h
    refine fhsw_c (fun hc => ?_) (fun hc => ?_)
    · rw [if_pos hc] at h
      refine fhW.blk fhPF fhLL hΓ [(.iload 4, 0), (.i2l, 0)] (pc' := 185) (lv' := [(0, .ref 0), (1, .int v1), (2, .int v2), (3, .int v3), (4, .int v4), (5, .long v5), (7, .int v7), (8, .int v8), (9, .int v9)]) (st' := [.long (Int32.toInt64 v4)]) (σ' := σ) (by decide +kernel) rfl rfl rfl ?_
      have e9 := Option.some.inj h
      subst e9
      exact fhW.lret hΓ (by decide +kernel) hk
    rw [if_neg hc] at h
    refine fhsw_c (fun hc => ?_) (fun hc => ?_)
    · rw [if_pos hc] at h
      refine fhW.blk fhPF fhLL hΓ [(.lload 5, 0)] (pc' := 188) (lv' := [(0, .ref 0), (1, .int v1), (2, .int v2), (3, .int v3), (4, .int v4), (5, .long v5), (7, .int v7), (8, .int v8), (9, .int v9)]) (st' := [.long v5]) (σ' := σ) (by decide +kernel) rfl rfl rfl ?_
      have e9 := Option.some.inj h
      subst e9
      exact fhW.lret hΓ (by decide +kernel) hk
    rw [if_neg hc] at h
    refine fhsw_c (fun hc => ?_) (fun hc => ?_)
    · rw [if_pos hc] at h
      refine fhW.blk fhPF fhLL hΓ [(.iload 7, 0), (.i2l, 0)] (pc' := 192) (lv' := [(0, .ref 0), (1, .int v1), (2, .int v2), (3, .int v3), (4, .int v4), (5, .long v5), (7, .int v7), (8, .int v8), (9, .int v9)]) (st' := [.long (Int32.toInt64 v7)]) (σ' := σ) (by decide +kernel) rfl rfl rfl ?_
      have e9 := Option.some.inj h
      subst e9
      exact fhW.lret hΓ (by decide +kernel) hk
    rw [if_neg hc] at h
    refine fhsw_n ?_
    refine fhW.blk fhPF fhLL hΓ [(.iload 8, 0), (.i2l, 0)] (pc' := 196) (lv' := [(0, .ref 0), (1, .int v1), (2, .int v2), (3, .int v3), (4, .int v4), (5, .long v5), (7, .int v7), (8, .int v8), (9, .int v9)]) (st' := [.long (Int32.toInt64 v8)]) (σ' := σ) (by decide +kernel) rfl rfl rfl ?_
    have e9 := Option.some.inj h
    subst e9
    exact fhW.lret hΓ (by decide +kernel) hk
  · rw [if_neg hc] at h
    refine fhW.blk fhPF fhLL hΓ [(.aload_n 0, 0), (.getfield 44, 0), (.aload_n 0, 0), (.getfield 72, 0), (.iload 9, 0)] (pc' := 41) (lv' := [(0, .ref 0), (1, .int v1), (2, .int v2), (3, .int v3), (4, .int v4), (5, .long v5), (7, .int v7), (8, .int v8), (9, .int v9)]) (st' := [.int v9, .ref 56, .ref 10]) (σ' := σ) (by decide +kernel) rfl rfl rfl ?_
    obtain ⟨q1, hb1, h⟩ := Option.bind_eq_some_iff.mp h
    refine fhW.callv hΓ mvX10_fillFromGuest ml_11_371 (t := 10) (ci := 10) (av := [.ref 56, .int v9]) (rest := []) (r := none) (σ' := q1) (T_X10_fillFromGuest (E := fhEn Γ) (d := fhD Γ - 1) hE (by omega) v9 σ hb1) (by omega) (by decide +kernel) rfl rfl rfl (Nat.le_of_ble_eq_true rfl) rfl ?_
    show fhW fhYF Γ 44 [(0, .ref 0), (1, .int v1), (2, .int v2), (3, .int v3), (4, .int v4), (5, .long v5), (7, .int v7), (8, .int v8), (9, .int v9)] [] q1
    refine fhW.blk fhPF fhLL hΓ [(.aload_n 0, 0), (.getfield 44, 0), (.aload_n 0, 0), (.getfield 28, 0), (.iconst 0, 0), (.aload_n 0, 0), (.getfield 28, 0), (.getfield 357, 0)] (pc' := 60) (lv' := [(0, .ref 0), (1, .int v1), (2, .int v2), (3, .int v3), (4, .int v4), (5, .long v5), (7, .int v7), (8, .int v8), (9, .int v9)]) (st' := [.int (q1.1 6 1), .int (0 : Int32), .ref 6, .ref 10]) (σ' := q1) (by decide +kernel) rfl rfl rfl ?_
    obtain ⟨q2, hb2, h⟩ := Option.bind_eq_some_iff.mp h
    refine fhW.callv hΓ mvX10_value ml_11_375 (t := 10) (ci := 10) (av := [.ref 6, .int (0 : Int32), .int (q1.1 6 1)]) (rest := []) (r := (some (.int q2.1))) (σ' := q2.2) (T_X10_value (E := fhEn Γ) (d := fhD Γ - 1) hE (by omega) 6 (0 : Int32) (q1.1 6 1) rfl q1 hb2) (by omega) (by decide +kernel) rfl rfl rfl (Nat.le_of_ble_eq_true rfl) rfl ?_
    show fhW fhYF Γ 63 [(0, .ref 0), (1, .int v1), (2, .int v2), (3, .int v3), (4, .int v4), (5, .long v5), (7, .int v7), (8, .int v8), (9, .int v9)] [.int q2.1] q2.2
    refine fhW.blk fhPF fhLL hΓ [(.istore 10, 0), (.iload 10, 0)] (pc' := 67) (lv' := [(10, .int q2.1), (0, .ref 0), (1, .int v1), (2, .int v2), (3, .int v3), (4, .int v4), (5, .long v5), (7, .int v7), (8, .int v8), (9, .int v9)]) (st' := [.int q2.1]) (σ' := q2.2) (by decide +kernel) rfl rfl rfl ?_
    refine fhW.z_eq hΓ (tgt := 88) (show fhbk _ _ (.ifCond .eq (21)) _ = true by decide +kernel) (fun hc => ?_) (fun hc => ?_)
    · rw [if_pos hc] at h
      refine fhW.sub (lv' := [(0, .ref 0), (1, .int v1), (2, .int v2), (3, .int v3), (4, .int v4), (5, .long v5), (7, .int v7), (8, .int v8), (9, .int v9), (10, .int q2.1)]) [1, 2, 3, 4, 5, 6, 7, 8, 9, 0] rfl ?_
      exact L_X11_answer_88 hE hΓ hd v1 v2 v3 v4 v5 v7 v8 v9 q2.1 q2.2 _ h hk
    · rw [if_neg hc] at h
      refine fhW.blk fhPF fhLL hΓ [(.iload_n 2, 0), (.iconst (-1), -1)] (pc' := 72) (lv' := [(10, .int q2.1), (0, .ref 0), (1, .int v1), (2, .int v2), (3, .int v3), (4, .int v4), (5, .long v5), (7, .int v7), (8, .int v8), (9, .int v9)]) (st' := [.int (-1 : Int32), .int v2]) (σ' := q2.2) (by decide +kernel) rfl rfl rfl ?_
      refine fhW.i_ne hΓ (tgt := 80) (show fhbk _ _ (.if_icmp .ne (8)) _ = true by decide +kernel) (fun hc => ?_) (fun hc => ?_)
      · simp only [if_neg hc] at h
        refine fhW.blk fhPF fhLL hΓ [(.iload_n 2, 0)] (pc' := 81) (lv' := [(10, .int q2.1), (0, .ref 0), (1, .int v1), (2, .int v2), (3, .int v3), (4, .int v4), (5, .long v5), (7, .int v7), (8, .int v8), (9, .int v9)]) (st' := [.int v2]) (σ' := q2.2) (by decide +kernel) rfl rfl rfl ?_
        refine fhW.sub (lv' := [(0, .ref 0), (1, .int v1), (4, .int v4), (5, .long v5), (7, .int v7), (8, .int v8), (9, .int v9), (10, .int q2.1)]) [1, 2, 5, 6, 7, 8, 9, 0] rfl ?_
        exact L_X11_answer_81 hE hΓ hd v1 v4 v5 v7 v8 v9 q2.1 v2 q2.2 _ h hk
      · simp only [if_pos hc] at h
        refine fhW.blk fhPF fhLL hΓ [(.iload 9, 0)] (pc' := 77) (lv' := [(10, .int q2.1), (0, .ref 0), (1, .int v1), (2, .int v2), (3, .int v3), (4, .int v4), (5, .long v5), (7, .int v7), (8, .int v8), (9, .int v9)]) (st' := [.int v9]) (σ' := q2.2) (by decide +kernel) rfl rfl rfl ?_
        refine fhW.goto hΓ (off := 4) (tgt := 81) (by decide +kernel) ?_
        refine fhW.sub (lv' := [(0, .ref 0), (1, .int v1), (4, .int v4), (5, .long v5), (7, .int v7), (8, .int v8), (9, .int v9), (10, .int q2.1)]) [1, 2, 5, 6, 7, 8, 9, 0] rfl ?_
        exact L_X11_answer_81 hE hΓ hd v1 v4 v5 v7 v8 v9 q2.1 v9 q2.2 _ h hk
set_option maxRecDepth 100000 in
set_option maxHeartbeats 4000000 in
theorem L_X11_answer_E {Γ : fhX} (hE : fhEok fhYF (fhEn Γ)) (hΓ : fhOk fhYF 11 cX11_answer 11 (some .long) Γ) (hd : 5 ≤ fhD Γ) (v1 : Int32)  (σ : fhM) (o : Int64 × fhM) (h : f_X11_answer v1 σ = some o) (hk : (fun o => fhRet Γ (some (.long o.1)) o.2) o) : fhW fhYF Γ 0 [(0, .ref 0), (1, .int v1)] [] σ := by
  unfold f_X11_answer at h
  refine fhW.blk fhPF fhLL hΓ [(.iconst (-1), -1), (.istore_n 2, 0), (.iconst (-1), -1), (.istore_n 3, 0), (.iconst 0, 0), (.istore 4, 0), (.lconst 0, 0), (.lstore 5, 0), (.iconst 0, 0), (.istore 7, 0), (.iconst 0, 0), (.istore 8, 0), (.iconst 0, 0), (.istore 9, 0)] (pc' := 19) (lv' := [(9, .int (0 : Int32)), (8, .int (0 : Int32)), (7, .int (0 : Int32)), (5, .long (0 : Int64)), (4, .int (0 : Int32)), (3, .int (-1 : Int32)), (2, .int (-1 : Int32)), (0, .ref 0), (1, .int v1)]) (st' := []) (σ' := σ) (by decide +kernel) rfl rfl rfl ?_
  refine fhW.sub (lv' := [(0, .ref 0), (1, .int v1), (2, .int (-1 : Int32)), (3, .int (-1 : Int32)), (4, .int (0 : Int32)), (5, .long (0 : Int64)), (7, .int (0 : Int32)), (8, .int (0 : Int32)), (9, .int (0 : Int32))]) [7, 8, 6, 5, 4, 3, 2, 1, 0] rfl ?_
  exact fhlp_ok (W := (fun x => fhW fhYF Γ 19 [(0, .ref 0), (1, .int v1), (2, .int x.1), (3, .int x.2.1), (4, .int x.2.2.1), (5, .long x.2.2.2.1), (7, .int x.2.2.2.2.1), (8, .int x.2.2.2.2.2.1), (9, .int x.2.2.2.2.2.2.1)] [] x.2.2.2.2.2.2.2)) (B := (fun o => fhRet Γ (some (.long o.1)) o.2)) (fun x o h hk => L_X11_answer_19 hE hΓ hd v1 x.1 x.2.1 x.2.2.1 x.2.2.2.1 x.2.2.2.2.1 x.2.2.2.2.2.1 x.2.2.2.2.2.2.1 x.2.2.2.2.2.2.2 o h hk) ((-1 : Int32), (-1 : Int32), (0 : Int32), (0 : Int64), (0 : Int32), (0 : Int32), (0 : Int32), σ) _ h hk
set_option maxRecDepth 100000 in
theorem T_X11_answer {E : fhE} {d : Nat} (hE : fhEok fhYF E) (hd : 5 ≤ d) (v1 : Int32)  (σ : fhM) {o : Int64 × fhM} (h : f_X11_answer v1 σ = some o) : fhC fhYF E d miX11_answer [.ref 0, .int v1] σ (some (.long o.1)) o.2 := by
  refine fhC.of (y := yX11_answer) (cc := cX11_answer) (nL := 11) (ret := (some .long)) 11 rfl (by decide +kernel) (Nat.le_of_ble_eq_true rfl) ?_
  intro Γ hΓ hR hD hEn
  subst hD; subst hEn
  exact L_X11_answer_E hE hΓ hd v1  σ _ h hR
set_option maxRecDepth 100000 in
set_option maxHeartbeats 4000000 in
theorem L_X11_pictureSize_E {Γ : fhX} (hE : fhEok fhYF (fhEn Γ)) (hΓ : fhOk fhYF 11 cX11_pictureSize 1 (some .int) Γ) (hd : 0 ≤ fhD Γ)   (σ : fhM) (o : Int32) (h : f_X11_pictureSize σ = o) (hk : (fun o => fhRet Γ (some (.int o)) σ) o) : fhW fhYF Γ 0 [(0, .ref 0)] [] σ := by
  unfold f_X11_pictureSize at h
  refine fhW.blk fhPF fhLL hΓ [(.iconst 2, 2), (.aload_n 0, 0), (.getfield 63, 0), (.getfield 166, 0), (.iadd, 0), (.aload_n 0, 0), (.getfield 63, 0), (.getfield 249, 0), (.bipush 7, 7), (.iadd, 0), (.bipush 8, 8), (.idiv, 0), (.iadd, 0), (.iconst 1, 1), (.iadd, 0)] (pc' := 25) (lv' := [(0, .ref 0)]) (st' := [.int ((((2 : Int32) + (σ.1 39 9)) + (((σ.1 39 11) + (7 : Int32)) / (8 : Int32))) + (1 : Int32))]) (σ' := σ) (by decide +kernel) rfl rfl rfl ?_
  subst h
  exact fhW.iret hΓ (by decide +kernel) hk
set_option maxRecDepth 100000 in
theorem T_X11_pictureSize {E : fhE} {d : Nat} (hE : fhEok fhYF E) (hd : 0 ≤ d)   (σ : fhM) : fhC fhYF E d miX11_pictureSize [.ref 0] σ (some (.int (f_X11_pictureSize σ))) σ := by
  refine fhC.of (y := yX11_pictureSize) (cc := cX11_pictureSize) (nL := 1) (ret := (some .int)) 11 rfl (by decide +kernel) (Nat.le_of_ble_eq_true rfl) ?_
  intro Γ hΓ hR hD hEn
  subst hD; subst hEn
  exact L_X11_pictureSize_E hE hΓ hd   σ _ rfl hR
set_option maxRecDepth 100000 in
set_option maxHeartbeats 4000000 in
theorem L_X11_checkByte_6 {Γ : fhX} (hE : fhEok fhYF (fhEn Γ)) (hΓ : fhOk fhYF 11 cX11_checkByte 4 (some .int) Γ) (hd : 1 ≤ fhD Γ) (v0 : Nat) (v1 : Int32) (v2 : Int32) (v3 : Int32) (hv0 : fhiC v0 = true) (σ : fhM) (o : (Int32 × Int32) ⊕ (Int32)) (h : f_X11_checkByte_6 v0 v1 v2 v3 σ = some o) (hk : (fhK (fun x => fhW fhYF Γ 6 [(0, .ref v0), (1, .int v1), (2, .int x.1), (3, .int x.2)] [] σ) (fun o => fhRet Γ (some (.int o)) σ)) o) : fhW fhYF Γ 6 [(0, .ref v0), (1, .int v1), (2, .int v2), (3, .int v3)] [] σ := by
  unfold f_X11_checkByte_6 at h
  refine fhW.blk fhPF fhLL hΓ [(.iload_n 3, 0), (.iload_n 1, 0)] (pc' := 8) (lv' := [(0, .ref v0), (1, .int v1), (2, .int v2), (3, .int v3)]) (st' := [.int v1, .int v3]) (σ' := σ) (by decide +kernel) rfl rfl rfl ?_
  refine fhW.i_ge hΓ (tgt := 31) (show fhbk _ _ (.if_icmp .ge (23)) _ = true by decide +kernel) (fun hc => ?_) (fun hc => ?_)
  · rw [if_pos hc] at h
    refine fhW.blk fhPF fhLL hΓ [(.iload_n 2, 0)] (pc' := 32) (lv' := [(0, .ref v0), (1, .int v1), (2, .int v2), (3, .int v3)]) (st' := [.int v2]) (σ' := σ) (by decide +kernel) rfl rfl rfl ?_
    have e9 := Option.some.inj h
    subst e9
    exact fhW.iret hΓ (by decide +kernel) hk
  · rw [if_neg hc] at h
    refine fhW.blk fhPF fhLL hΓ [(.iconst 3, 3), (.iload_n 2, 0), (.imul, 0), (.aload_n 0, 0), (.iload_n 3, 0)] (pc' := 16) (lv' := [(0, .ref v0), (1, .int v1), (2, .int v2), (3, .int v3)]) (st' := [.int v3, .ref v0, .int ((3 : Int32) * v2)]) (σ' := σ) (by decide +kernel) rfl rfl rfl ?_
    refine fhW.callv hΓ mvX2_get ml_11_117 (t := v0) (ci := 2) (av := [.int v3]) (rest := [.int ((3 : Int32) * v2)]) (r := (some (.int (fcG σ v0 v3)))) (σ' := σ) (T_X2_get (E := fhEn Γ) (d := fhD Γ - 1) hE (by omega) v0 v3 hv0 σ) (by omega) (by decide +kernel) rfl (fhiC_g hv0) rfl (Nat.le_of_ble_eq_true rfl) rfl ?_
    show fhW fhYF Γ 19 [(0, .ref v0), (1, .int v1), (2, .int v2), (3, .int v3)] [.int (fcG σ v0 v3), .int ((3 : Int32) * v2)] σ
    refine fhW.blk fhPF fhLL hΓ [(.iadd, 0), (.sipush 251, 251), (.irem, 0), (.istore_n 2, 0)] (pc' := 25) (lv' := [(2, .int (fhrem (((3 : Int32) * v2) + (fcG σ v0 v3)) (251 : Int32))), (0, .ref v0), (1, .int v1), (3, .int v3)]) (st' := []) (σ' := σ) (by decide +kernel) rfl rfl rfl ?_
    obtain ⟨w2_1, e1, h⟩ := fhlet_elim h
    rw [← e1]
    refine fhW.blk fhPF fhLL hΓ [(.iinc 3 1, 1)] (pc' := 28) (lv' := [(3, .int (v3 + (1 : Int32))), (2, .int w2_1), (0, .ref v0), (1, .int v1)]) (st' := []) (σ' := σ) (by decide +kernel) rfl rfl rfl ?_
    refine fhW.goto hΓ (off := (-22)) (tgt := 6) (by decide +kernel) ?_
    refine fhW.sub (lv' := [(0, .ref v0), (1, .int v1), (2, .int w2_1), (3, .int (v3 + (1 : Int32)))]) [2, 3, 1, 0] rfl ?_
    have e9 := Option.some.inj h
    subst e9
    exact hk
set_option maxRecDepth 100000 in
set_option maxHeartbeats 4000000 in
theorem L_X11_checkByte_E {Γ : fhX} (hE : fhEok fhYF (fhEn Γ)) (hΓ : fhOk fhYF 11 cX11_checkByte 4 (some .int) Γ) (hd : 1 ≤ fhD Γ) (v0 : Nat) (v1 : Int32) (hv0 : fhiC v0 = true) (σ : fhM) (o : Int32) (h : f_X11_checkByte v0 v1 σ = some o) (hk : (fun o => fhRet Γ (some (.int o)) σ) o) : fhW fhYF Γ 0 [(0, .ref v0), (1, .int v1)] [] σ := by
  unfold f_X11_checkByte at h
  refine fhW.blk fhPF fhLL hΓ [(.sipush 197, 197), (.istore_n 2, 0), (.iconst 0, 0), (.istore_n 3, 0)] (pc' := 6) (lv' := [(3, .int (0 : Int32)), (2, .int (197 : Int32)), (0, .ref v0), (1, .int v1)]) (st' := []) (σ' := σ) (by decide +kernel) rfl rfl rfl ?_
  refine fhW.sub (lv' := [(0, .ref v0), (1, .int v1), (2, .int (197 : Int32)), (3, .int (0 : Int32))]) [2, 3, 1, 0] rfl ?_
  exact fhlp_ok (W := (fun x => fhW fhYF Γ 6 [(0, .ref v0), (1, .int v1), (2, .int x.1), (3, .int x.2)] [] σ)) (B := (fun o => fhRet Γ (some (.int o)) σ)) (fun x o h hk => L_X11_checkByte_6 hE hΓ hd v0 v1 x.1 x.2 hv0 σ o h hk) ((197 : Int32), (0 : Int32)) _ h hk
set_option maxRecDepth 100000 in
theorem T_X11_checkByte {E : fhE} {d : Nat} (hE : fhEok fhYF E) (hd : 1 ≤ d) (v0 : Nat) (v1 : Int32) (hv0 : fhiC v0 = true) (σ : fhM) {o : Int32} (h : f_X11_checkByte v0 v1 σ = some o) : fhC fhYF E d miX11_checkByte [.ref v0, .int v1] σ (some (.int o)) σ := by
  refine fhC.of (y := yX11_checkByte) (cc := cX11_checkByte) (nL := 4) (ret := (some .int)) 11 rfl (by decide +kernel) (Nat.le_of_ble_eq_true rfl) ?_
  intro Γ hΓ hR hD hEn
  subst hD; subst hEn
  exact L_X11_checkByte_E hE hΓ hd v0 v1 hv0 σ _ h hR
set_option maxRecDepth 100000 in
set_option maxHeartbeats 4000000 in
theorem L_X11_image_100 {Γ : fhX} (hE : fhEok fhYF (fhEn Γ)) (hΓ : fhOk fhYF 11 cX11_image 5 (some .int) Γ) (hd : 2 ≤ fhD Γ) (v1 : Int32) (v2 : Int32)  (σ : fhM) (o : (Int32 × fhM) ⊕ (Int32 × fhM)) (h : f_X11_image_100 v1 v2 σ = some o) (hk : (fhK (fun x => fhW fhYF Γ 100 [(0, .ref 0), (1, .int v1), (2, .int x.1)] [] x.2) (fun o => fhRet Γ (some (.int o.1)) o.2)) o) : fhW fhYF Γ 100 [(0, .ref 0), (1, .int v1), (2, .int v2)] [] σ := by
  unfold f_X11_image_100 at h
  refine fhW.blk fhPF fhLL hΓ [(.iload_n 2, 0), (.aload_n 0, 0), (.getfield 72, 0), (.getfield 178, 0)] (pc' := 108) (lv' := [(0, .ref 0), (1, .int v1), (2, .int v2)]) (st' := [.int (σ.1 56 8), .int v2]) (σ' := σ) (by decide +kernel) rfl rfl rfl ?_
  refine fhW.i_ge hΓ (tgt := 161) (show fhbk _ _ (.if_icmp .ge (53)) _ = true by decide +kernel) (fun hc => ?_) (fun hc => ?_)
  · rw [if_pos hc] at h
    refine fhW.blk fhPF fhLL hΓ [(.aload_n 0, 0), (.aload_n 0, 0)] (pc' := 163) (lv' := [(0, .ref 0), (1, .int v1), (2, .int v2)]) (st' := [.ref 0, .ref 0]) (σ' := σ) (by decide +kernel) rfl rfl rfl ?_
    refine fhW.callv hΓ mvX11_pictureSize ml_11_388 (t := 0) (ci := 11) (av := []) (rest := [.ref 0]) (r := (some (.int (f_X11_pictureSize σ)))) (σ' := σ) (T_X11_pictureSize (E := fhEn Γ) (d := fhD Γ - 1) hE (by omega) σ) (by omega) (by decide +kernel) rfl rfl rfl (Nat.le_of_ble_eq_true rfl) rfl ?_
    show fhW fhYF Γ 166 [(0, .ref 0), (1, .int v1), (2, .int v2)] [.int (f_X11_pictureSize σ), .ref 0] σ
    refine fhW.blk fhPF fhLL hΓ [(.putfield 391, 0), (.aload_n 0, 0), (.getfield 90, 0), (.aload_n 0, 0), (.getfield 391, 0), (.iconst 1, 1), (.isub, 0), (.aload_n 0, 0), (.getfield 90, 0), (.aload_n 0, 0), (.getfield 391, 0), (.iconst 1, 1), (.isub, 0)] (pc' := 189) (lv' := [(0, .ref 0), (1, .int v1), (2, .int v2)]) (st' := [.int ((f_X11_pictureSize σ) - (1 : Int32)), .ref 98, .int ((f_X11_pictureSize σ) - (1 : Int32)), .ref 98]) (σ' := (fhI σ 0 14 (f_X11_pictureSize σ))) (by decide +kernel) rfl rfl rfl ?_
    obtain ⟨q1, hb1, h⟩ := Option.bind_eq_some_iff.mp h
    refine fhW.calls hΓ msX11_checkByte ml_11_394 (av := [.ref 98, .int ((f_X11_pictureSize σ) - (1 : Int32))]) (rest := [.int ((f_X11_pictureSize σ) - (1 : Int32)), .ref 98]) (r := (some (.int q1))) (σ' := (fhI σ 0 14 (f_X11_pictureSize σ))) (T_X11_checkByte (E := fhEn Γ) (d := fhD Γ - 1) hE (by omega) 98 ((f_X11_pictureSize σ) - (1 : Int32)) rfl (fhI σ 0 14 (f_X11_pictureSize σ)) hb1) (by omega) (by decide +kernel) rfl (Nat.le_of_ble_eq_true rfl) rfl ?_
    show fhW fhYF Γ 192 [(0, .ref 0), (1, .int v1), (2, .int v2)] [.int q1, .int ((f_X11_pictureSize σ) - (1 : Int32)), .ref 98] (fhI σ 0 14 (f_X11_pictureSize σ))
    refine fhW.callv hΓ mvX2_put ml_11_113 (t := 98) (ci := 2) (av := [.int ((f_X11_pictureSize σ) - (1 : Int32)), .int q1]) (rest := []) (r := none) (σ' := (fcP (fhI σ 0 14 (f_X11_pictureSize σ)) 98 ((f_X11_pictureSize σ) - (1 : Int32)) q1)) (T_X2_put (E := fhEn Γ) (d := fhD Γ - 1) hE (by omega) 98 ((f_X11_pictureSize σ) - (1 : Int32)) q1 rfl (fhI σ 0 14 (f_X11_pictureSize σ))) (by omega) (by decide +kernel) rfl rfl rfl (Nat.le_of_ble_eq_true rfl) rfl ?_
    show fhW fhYF Γ 195 [(0, .ref 0), (1, .int v1), (2, .int v2)] [] (fcP (fhI σ 0 14 (f_X11_pictureSize σ)) 98 ((f_X11_pictureSize σ) - (1 : Int32)) q1)
    refine fhW.blk fhPF fhLL hΓ [(.aload_n 0, 0), (.getfield 391, 0)] (pc' := 199) (lv' := [(0, .ref 0), (1, .int v1), (2, .int v2)]) (st' := [.int (f_X11_pictureSize σ)]) (σ' := (fcP (fhI σ 0 14 (f_X11_pictureSize σ)) 98 ((f_X11_pictureSize σ) - (1 : Int32)) q1)) (by decide +kernel) rfl rfl rfl ?_
    have e9 := Option.some.inj h
    subst e9
    exact fhW.iret hΓ (by decide +kernel) hk
  · rw [if_neg hc] at h
    refine fhW.blk fhPF fhLL hΓ [(.aload_n 0, 0), (.getfield 72, 0), (.getfield 246, 0), (.iload_n 2, 0)] (pc' := 119) (lv' := [(0, .ref 0), (1, .int v1), (2, .int v2)]) (st' := [.int v2, .ref 72]) (σ' := σ) (by decide +kernel) rfl rfl rfl ?_
    refine fhW.callv hΓ mvX2_get ml_11_117 (t := 72) (ci := 2) (av := [.int v2]) (rest := []) (r := (some (.int (fcG σ 72 v2)))) (σ' := σ) (T_X2_get (E := fhEn Γ) (d := fhD Γ - 1) hE (by omega) 72 v2 rfl σ) (by omega) (by decide +kernel) rfl rfl rfl (Nat.le_of_ble_eq_true rfl) rfl ?_
    show fhW fhYF Γ 122 [(0, .ref 0), (1, .int v1), (2, .int v2)] [.int (fcG σ 72 v2)] σ
    refine fhW.blk fhPF fhLL hΓ [(.istore_n 3, 0), (.iload_n 1, 0), (.iload_n 3, 0), (.iconst 3, 3), (.ishr, 0), (.iadd, 0), (.istore 4, 0)] (pc' := 130) (lv' := [(4, .int (v1 + ((fcG σ 72 v2) >>> ((3 : Int32) &&& 31)))), (3, .int (fcG σ 72 v2)), (0, .ref 0), (1, .int v1), (2, .int v2)]) (st' := []) (σ' := σ) (by decide +kernel) rfl rfl rfl ?_
    obtain ⟨w4_1, e1, h⟩ := fhlet_elim h
    rw [← e1]
    refine fhW.blk fhPF fhLL hΓ [(.aload_n 0, 0), (.getfield 90, 0), (.iload 4, 0), (.aload_n 0, 0), (.getfield 90, 0), (.iload 4, 0)] (pc' := 142) (lv' := [(4, .int w4_1), (3, .int (fcG σ 72 v2)), (0, .ref 0), (1, .int v1), (2, .int v2)]) (st' := [.int w4_1, .ref 98, .int w4_1, .ref 98]) (σ' := σ) (by decide +kernel) rfl rfl rfl ?_
    refine fhW.callv hΓ mvX2_get ml_11_117 (t := 98) (ci := 2) (av := [.int w4_1]) (rest := [.int w4_1, .ref 98]) (r := (some (.int (fcG σ 98 w4_1)))) (σ' := σ) (T_X2_get (E := fhEn Γ) (d := fhD Γ - 1) hE (by omega) 98 w4_1 rfl σ) (by omega) (by decide +kernel) rfl rfl rfl (Nat.le_of_ble_eq_true rfl) rfl ?_
    show fhW fhYF Γ 145 [(4, .int w4_1), (3, .int (fcG σ 72 v2)), (0, .ref 0), (1, .int v1), (2, .int v2)] [.int (fcG σ 98 w4_1), .int w4_1, .ref 98] σ
    refine fhW.blk fhPF fhLL hΓ [(.iconst 1, 1), (.iload_n 3, 0), (.bipush 7, 7), (.iand, 0), (.ishl, 0), (.ior, 0)] (pc' := 152) (lv' := [(4, .int w4_1), (3, .int (fcG σ 72 v2)), (0, .ref 0), (1, .int v1), (2, .int v2)]) (st' := [.int ((fcG σ 98 w4_1) ||| ((1 : Int32) <<< (((fcG σ 72 v2) &&& (7 : Int32)) &&& 31))), .int w4_1, .ref 98]) (σ' := σ) (by decide +kernel) rfl rfl rfl ?_
    refine fhW.callv hΓ mvX2_put ml_11_113 (t := 98) (ci := 2) (av := [.int w4_1, .int ((fcG σ 98 w4_1) ||| ((1 : Int32) <<< (((fcG σ 72 v2) &&& (7 : Int32)) &&& 31)))]) (rest := []) (r := none) (σ' := (fcP σ 98 w4_1 ((fcG σ 98 w4_1) ||| ((1 : Int32) <<< (((fcG σ 72 v2) &&& (7 : Int32)) &&& 31))))) (T_X2_put (E := fhEn Γ) (d := fhD Γ - 1) hE (by omega) 98 w4_1 ((fcG σ 98 w4_1) ||| ((1 : Int32) <<< (((fcG σ 72 v2) &&& (7 : Int32)) &&& 31))) rfl σ) (by omega) (by decide +kernel) rfl rfl rfl (Nat.le_of_ble_eq_true rfl) rfl ?_
    show fhW fhYF Γ 155 [(4, .int w4_1), (3, .int (fcG σ 72 v2)), (0, .ref 0), (1, .int v1), (2, .int v2)] [] (fcP σ 98 w4_1 ((fcG σ 98 w4_1) ||| ((1 : Int32) <<< (((fcG σ 72 v2) &&& (7 : Int32)) &&& 31))))
    refine fhW.blk fhPF fhLL hΓ [(.iinc 2 1, 1)] (pc' := 158) (lv' := [(2, .int (v2 + (1 : Int32))), (4, .int w4_1), (3, .int (fcG σ 72 v2)), (0, .ref 0), (1, .int v1)]) (st' := []) (σ' := (fcP σ 98 w4_1 ((fcG σ 98 w4_1) ||| ((1 : Int32) <<< (((fcG σ 72 v2) &&& (7 : Int32)) &&& 31))))) (by decide +kernel) rfl rfl rfl ?_
    refine fhW.goto hΓ (off := (-58)) (tgt := 100) (by decide +kernel) ?_
    refine fhW.sub (lv' := [(0, .ref 0), (1, .int v1), (2, .int (v2 + (1 : Int32)))]) [3, 4, 0] rfl ?_
    have e9 := Option.some.inj h
    subst e9
    exact hk
set_option maxRecDepth 100000 in
set_option maxHeartbeats 4000000 in
theorem L_X11_image_46 {Γ : fhX} (hE : fhEok fhYF (fhEn Γ)) (hΓ : fhOk fhYF 11 cX11_image 5 (some .int) Γ) (hd : 2 ≤ fhD Γ) (v1 : Int32)  (σ : fhM) (o : (Int32 × fhM) ⊕ (Int32 × fhM)) (h : f_X11_image_46 v1 σ = some o) (hk : (fhK (fun x => fhW fhYF Γ 46 [(0, .ref 0), (1, .int x.1)] [] x.2) (fun o => fhRet Γ (some (.int o.1)) o.2)) o) : fhW fhYF Γ 46 [(0, .ref 0), (1, .int v1)] [] σ := by
  unfold f_X11_image_46 at h
  refine fhW.blk fhPF fhLL hΓ [(.iload_n 1, 0), (.aload_n 0, 0), (.getfield 63, 0), (.getfield 166, 0)] (pc' := 54) (lv' := [(0, .ref 0), (1, .int v1)]) (st' := [.int (σ.1 39 9), .int v1]) (σ' := σ) (by decide +kernel) rfl rfl rfl ?_
  refine fhW.i_ge hΓ (tgt := 88) (show fhbk _ _ (.if_icmp .ge (34)) _ = true by decide +kernel) (fun hc => ?_) (fun hc => ?_)
  · rw [if_pos hc] at h
    refine fhW.blk fhPF fhLL hΓ [(.iconst 2, 2), (.aload_n 0, 0), (.getfield 63, 0), (.getfield 166, 0), (.iadd, 0), (.istore_n 1, 0), (.iconst 0, 0), (.istore_n 2, 0)] (pc' := 100) (lv' := [(2, .int (0 : Int32)), (1, .int ((2 : Int32) + (σ.1 39 9))), (0, .ref 0)]) (st' := []) (σ' := σ) (by decide +kernel) rfl rfl rfl ?_
    refine fhW.sub (lv' := [(0, .ref 0), (1, .int ((2 : Int32) + (σ.1 39 9))), (2, .int (0 : Int32))]) [2, 1, 0] rfl ?_
    obtain ⟨z1, hz, e2⟩ := Option.map_eq_some_iff.mp h
    clear h
    subst e2
    have h := hz
    have hk : (fun o => fhRet Γ (some (.int o.1)) o.2) z1 := hk
    exact fhlp_ok (W := (fun x => fhW fhYF Γ 100 [(0, .ref 0), (1, .int ((2 : Int32) + (σ.1 39 9))), (2, .int x.1)] [] x.2)) (B := (fun o => fhRet Γ (some (.int o.1)) o.2)) (fun x o h hk => L_X11_image_100 hE hΓ hd ((2 : Int32) + (σ.1 39 9)) x.1 x.2 o h hk) ((0 : Int32), σ) _ h hk
  · rw [if_neg hc] at h
    refine fhW.blk fhPF fhLL hΓ [(.aload_n 0, 0), (.getfield 90, 0), (.iconst 2, 2), (.iload_n 1, 0), (.iadd, 0), (.aload_n 0, 0), (.getfield 63, 0), (.aload_n 0, 0), (.getfield 72, 0), (.getfield 208, 0), (.iload_n 1, 0)] (pc' := 76) (lv' := [(0, .ref 0), (1, .int v1)]) (st' := [.int v1, .int (σ.1 56 9), .ref 39, .int ((2 : Int32) + v1), .ref 98]) (σ' := σ) (by decide +kernel) rfl rfl rfl ?_
    refine fhW.callv hΓ mvX9_markOf ml_11_209 (t := 39) (ci := 9) (av := [.int (σ.1 56 9), .int v1]) (rest := [.int ((2 : Int32) + v1), .ref 98]) (r := (some (.int (f_X9_markOf (σ.1 56 9) v1 σ)))) (σ' := σ) (T_X9_markOf (E := fhEn Γ) (d := fhD Γ - 1) hE (by omega) (σ.1 56 9) v1 σ) (by omega) (by decide +kernel) rfl rfl rfl (Nat.le_of_ble_eq_true rfl) rfl ?_
    show fhW fhYF Γ 79 [(0, .ref 0), (1, .int v1)] [.int (f_X9_markOf (σ.1 56 9) v1 σ), .int ((2 : Int32) + v1), .ref 98] σ
    refine fhW.callv hΓ mvX2_put ml_11_113 (t := 98) (ci := 2) (av := [.int ((2 : Int32) + v1), .int (f_X9_markOf (σ.1 56 9) v1 σ)]) (rest := []) (r := none) (σ' := (fcP σ 98 ((2 : Int32) + v1) (f_X9_markOf (σ.1 56 9) v1 σ))) (T_X2_put (E := fhEn Γ) (d := fhD Γ - 1) hE (by omega) 98 ((2 : Int32) + v1) (f_X9_markOf (σ.1 56 9) v1 σ) rfl σ) (by omega) (by decide +kernel) rfl rfl rfl (Nat.le_of_ble_eq_true rfl) rfl ?_
    show fhW fhYF Γ 82 [(0, .ref 0), (1, .int v1)] [] (fcP σ 98 ((2 : Int32) + v1) (f_X9_markOf (σ.1 56 9) v1 σ))
    refine fhW.blk fhPF fhLL hΓ [(.iinc 1 1, 1)] (pc' := 85) (lv' := [(1, .int (v1 + (1 : Int32))), (0, .ref 0)]) (st' := []) (σ' := (fcP σ 98 ((2 : Int32) + v1) (f_X9_markOf (σ.1 56 9) v1 σ))) (by decide +kernel) rfl rfl rfl ?_
    refine fhW.goto hΓ (off := (-39)) (tgt := 46) (by decide +kernel) ?_
    refine fhW.sub (lv' := [(0, .ref 0), (1, .int (v1 + (1 : Int32)))]) [1, 0] rfl ?_
    have e9 := Option.some.inj h
    subst e9
    exact hk
set_option maxRecDepth 100000 in
set_option maxHeartbeats 4000000 in
theorem L_X11_image_E {Γ : fhX} (hE : fhEok fhYF (fhEn Γ)) (hΓ : fhOk fhYF 11 cX11_image 5 (some .int) Γ) (hd : 2 ≤ fhD Γ)   (σ : fhM) (o : Int32 × fhM) (h : f_X11_image σ = some o) (hk : (fun o => fhRet Γ (some (.int o.1)) o.2) o) : fhW fhYF Γ 0 [(0, .ref 0)] [] σ := by
  unfold f_X11_image at h
  refine fhW.blk fhPF fhLL hΓ [(.aload_n 0, 0), (.getfield 90, 0)] (pc' := 4) (lv' := [(0, .ref 0)]) (st' := [.ref 98]) (σ' := σ) (by decide +kernel) rfl rfl rfl ?_
  refine fhW.callv hΓ mvX2_wipe ml_11_387 (t := 98) (ci := 2) (av := []) (rest := []) (r := none) (σ' := (fcW σ 98)) (T_X2_wipe (E := fhEn Γ) (d := fhD Γ - 1) hE (by omega) 98 rfl σ) (by omega) (by decide +kernel) rfl rfl rfl (Nat.le_of_ble_eq_true rfl) rfl ?_
  show fhW fhYF Γ 7 [(0, .ref 0)] [] (fcW σ 98)
  refine fhW.blk fhPF fhLL hΓ [(.aload_n 0, 0), (.getfield 90, 0), (.iconst 0, 0), (.aload_n 0, 0), (.getfield 72, 0), (.getfield 175, 0), (.bipush 8, 8), (.ishr, 0)] (pc' := 22) (lv' := [(0, .ref 0)]) (st' := [.int ((σ.1 56 10) >>> ((8 : Int32) &&& 31)), .int (0 : Int32), .ref 98]) (σ' := (fcW σ 98)) (by decide +kernel) rfl rfl rfl ?_
  refine fhW.callv hΓ mvX2_put ml_11_113 (t := 98) (ci := 2) (av := [.int (0 : Int32), .int ((σ.1 56 10) >>> ((8 : Int32) &&& 31))]) (rest := []) (r := none) (σ' := (fcP (fcW σ 98) 98 (0 : Int32) ((σ.1 56 10) >>> ((8 : Int32) &&& 31)))) (T_X2_put (E := fhEn Γ) (d := fhD Γ - 1) hE (by omega) 98 (0 : Int32) ((σ.1 56 10) >>> ((8 : Int32) &&& 31)) rfl (fcW σ 98)) (by omega) (by decide +kernel) rfl rfl rfl (Nat.le_of_ble_eq_true rfl) rfl ?_
  show fhW fhYF Γ 25 [(0, .ref 0)] [] (fcP (fcW σ 98) 98 (0 : Int32) ((σ.1 56 10) >>> ((8 : Int32) &&& 31)))
  refine fhW.blk fhPF fhLL hΓ [(.aload_n 0, 0), (.getfield 90, 0), (.iconst 1, 1), (.aload_n 0, 0), (.getfield 72, 0), (.getfield 175, 0), (.sipush 255, 255), (.iand, 0)] (pc' := 41) (lv' := [(0, .ref 0)]) (st' := [.int ((σ.1 56 10) &&& (255 : Int32)), .int (1 : Int32), .ref 98]) (σ' := (fcP (fcW σ 98) 98 (0 : Int32) ((σ.1 56 10) >>> ((8 : Int32) &&& 31)))) (by decide +kernel) rfl rfl rfl ?_
  refine fhW.callv hΓ mvX2_put ml_11_113 (t := 98) (ci := 2) (av := [.int (1 : Int32), .int ((σ.1 56 10) &&& (255 : Int32))]) (rest := []) (r := none) (σ' := (fcP (fcP (fcW σ 98) 98 (0 : Int32) ((σ.1 56 10) >>> ((8 : Int32) &&& 31))) 98 (1 : Int32) ((σ.1 56 10) &&& (255 : Int32)))) (T_X2_put (E := fhEn Γ) (d := fhD Γ - 1) hE (by omega) 98 (1 : Int32) ((σ.1 56 10) &&& (255 : Int32)) rfl (fcP (fcW σ 98) 98 (0 : Int32) ((σ.1 56 10) >>> ((8 : Int32) &&& 31)))) (by omega) (by decide +kernel) rfl rfl rfl (Nat.le_of_ble_eq_true rfl) rfl ?_
  show fhW fhYF Γ 44 [(0, .ref 0)] [] (fcP (fcP (fcW σ 98) 98 (0 : Int32) ((σ.1 56 10) >>> ((8 : Int32) &&& 31))) 98 (1 : Int32) ((σ.1 56 10) &&& (255 : Int32)))
  refine fhW.blk fhPF fhLL hΓ [(.iconst 0, 0), (.istore_n 1, 0)] (pc' := 46) (lv' := [(1, .int (0 : Int32)), (0, .ref 0)]) (st' := []) (σ' := (fcP (fcP (fcW σ 98) 98 (0 : Int32) ((σ.1 56 10) >>> ((8 : Int32) &&& 31))) 98 (1 : Int32) ((σ.1 56 10) &&& (255 : Int32)))) (by decide +kernel) rfl rfl rfl ?_
  refine fhW.sub (lv' := [(0, .ref 0), (1, .int (0 : Int32))]) [1, 0] rfl ?_
  exact fhlp_ok (W := (fun x => fhW fhYF Γ 46 [(0, .ref 0), (1, .int x.1)] [] x.2)) (B := (fun o => fhRet Γ (some (.int o.1)) o.2)) (fun x o h hk => L_X11_image_46 hE hΓ hd x.1 x.2 o h hk) ((0 : Int32), (fcP (fcP (fcW σ 98) 98 (0 : Int32) ((σ.1 56 10) >>> ((8 : Int32) &&& 31))) 98 (1 : Int32) ((σ.1 56 10) &&& (255 : Int32)))) _ h hk
set_option maxRecDepth 100000 in
theorem T_X11_image {E : fhE} {d : Nat} (hE : fhEok fhYF E) (hd : 2 ≤ d)   (σ : fhM) {o : Int32 × fhM} (h : f_X11_image σ = some o) : fhC fhYF E d miX11_image [.ref 0] σ (some (.int o.1)) o.2 := by
  refine fhC.of (y := yX11_image) (cc := cX11_image) (nL := 5) (ret := (some .int)) 11 rfl (by decide +kernel) (Nat.le_of_ble_eq_true rfl) ?_
  intro Γ hΓ hR hD hEn
  subst hD; subst hEn
  exact L_X11_image_E hE hΓ hd   σ _ h hR
set_option maxRecDepth 100000 in
set_option maxHeartbeats 4000000 in
theorem L_X11_octet_E {Γ : fhX} (hE : fhEok fhYF (fhEn Γ)) (hΓ : fhOk fhYF 11 cX11_octet 2 (some .int) Γ) (hd : 1 ≤ fhD Γ) (v1 : Int32)  (σ : fhM) (o : Int32) (h : f_X11_octet v1 σ = o) (hk : (fun o => fhRet Γ (some (.int o)) σ) o) : fhW fhYF Γ 0 [(0, .ref 0), (1, .int v1)] [] σ := by
  unfold f_X11_octet at h
  refine fhW.blk fhPF fhLL hΓ [(.iload_n 1, 0)] (pc' := 1) (lv' := [(0, .ref 0), (1, .int v1)]) (st' := [.int v1]) (σ' := σ) (by decide +kernel) rfl rfl rfl ?_
  refine fhW.z_lt hΓ (tgt := 23) (show fhbk _ _ (.ifCond .lt (22)) _ = true by decide +kernel) (fun hc => ?_) (fun hc => ?_)
  · rw [if_pos hc] at h
    refine fhW.blk fhPF fhLL hΓ [(.iconst (-1), -1)] (pc' := 24) (lv' := [(0, .ref 0), (1, .int v1)]) (st' := [.int (-1 : Int32)]) (σ' := σ) (by decide +kernel) rfl rfl rfl ?_
    subst h
    exact fhW.iret hΓ (by decide +kernel) hk
  · rw [if_neg hc] at h
    refine fhW.blk fhPF fhLL hΓ [(.iload_n 1, 0), (.aload_n 0, 0), (.getfield 391, 0)] (pc' := 9) (lv' := [(0, .ref 0), (1, .int v1)]) (st' := [.int (σ.1 0 14), .int v1]) (σ' := σ) (by decide +kernel) rfl rfl rfl ?_
    refine fhW.i_ge hΓ (tgt := 23) (show fhbk _ _ (.if_icmp .ge (14)) _ = true by decide +kernel) (fun hc => ?_) (fun hc => ?_)
    · rw [if_pos hc] at h
      refine fhW.blk fhPF fhLL hΓ [(.iconst (-1), -1)] (pc' := 24) (lv' := [(0, .ref 0), (1, .int v1)]) (st' := [.int (-1 : Int32)]) (σ' := σ) (by decide +kernel) rfl rfl rfl ?_
      subst h
      exact fhW.iret hΓ (by decide +kernel) hk
    · rw [if_neg hc] at h
      refine fhW.blk fhPF fhLL hΓ [(.aload_n 0, 0), (.getfield 90, 0), (.iload_n 1, 0)] (pc' := 17) (lv' := [(0, .ref 0), (1, .int v1)]) (st' := [.int v1, .ref 98]) (σ' := σ) (by decide +kernel) rfl rfl rfl ?_
      refine fhW.callv hΓ mvX2_get ml_11_117 (t := 98) (ci := 2) (av := [.int v1]) (rest := []) (r := (some (.int (fcG σ 98 v1)))) (σ' := σ) (T_X2_get (E := fhEn Γ) (d := fhD Γ - 1) hE (by omega) 98 v1 rfl σ) (by omega) (by decide +kernel) rfl rfl rfl (Nat.le_of_ble_eq_true rfl) rfl ?_
      show fhW fhYF Γ 20 [(0, .ref 0), (1, .int v1)] [.int (fcG σ 98 v1)] σ
      refine fhW.goto hΓ (off := 4) (tgt := 24) (by decide +kernel) ?_
      subst h
      exact fhW.iret hΓ (by decide +kernel) hk
set_option maxRecDepth 100000 in
theorem T_X11_octet {E : fhE} {d : Nat} (hE : fhEok fhYF E) (hd : 1 ≤ d) (v1 : Int32)  (σ : fhM) : fhC fhYF E d miX11_octet [.ref 0, .int v1] σ (some (.int (f_X11_octet v1 σ))) σ := by
  refine fhC.of (y := yX11_octet) (cc := cX11_octet) (nL := 2) (ret := (some .int)) 11 rfl (by decide +kernel) (Nat.le_of_ble_eq_true rfl) ?_
  intro Γ hΓ hR hD hEn
  subst hD; subst hEn
  exact L_X11_octet_E hE hΓ hd v1  σ _ rfl hR
set_option maxRecDepth 100000 in
set_option maxHeartbeats 4000000 in
theorem L_X11_rowOfPicture_68 {Γ : fhX} (hE : fhEok fhYF (fhEn Γ)) (hΓ : fhOk fhYF 11 cX11_rowOfPicture 4 (some .int) Γ) (hd : 3 ≤ fhD Γ) (v2 : Int32) (v3 : Int32)  (σ : fhM) (o : (Int32 × Int32) ⊕ (Int32)) (h : f_X11_rowOfPicture_68 v2 v3 σ = some o) (hk : (fhK (fun x => fhW fhYF Γ 68 [(0, .ref 0), (2, .int x.1), (3, .int x.2)] [] σ) (fun o => fhRet Γ (some (.int o)) σ)) o) : fhW fhYF Γ 68 [(0, .ref 0), (2, .int v2), (3, .int v3)] [] σ := by
  unfold f_X11_rowOfPicture_68 at h
  refine fhW.blk fhPF fhLL hΓ [(.iload_n 3, 0), (.aload_n 0, 0), (.getfield 63, 0), (.getfield 166, 0)] (pc' := 76) (lv' := [(0, .ref 0), (2, .int v2), (3, .int v3)]) (st' := [.int (σ.1 39 9), .int v3]) (σ' := σ) (by decide +kernel) rfl rfl rfl ?_
  refine fhW.i_ge hΓ (tgt := 110) (show fhbk _ _ (.if_icmp .ge (34)) _ = true by decide +kernel) (fun hc => ?_) (fun hc => ?_)
  · rw [if_pos hc] at h
    refine fhW.blk fhPF fhLL hΓ [(.iload_n 2, 0)] (pc' := 111) (lv' := [(0, .ref 0), (2, .int v2), (3, .int v3)]) (st' := [.int v2]) (σ' := σ) (by decide +kernel) rfl rfl rfl ?_
    have e9 := Option.some.inj h
    subst e9
    exact fhW.iret hΓ (by decide +kernel) hk
  · rw [if_neg hc] at h
    refine fhW.blk fhPF fhLL hΓ [(.iload_n 2, 0), (.iconst (-1), -1)] (pc' := 81) (lv' := [(0, .ref 0), (2, .int v2), (3, .int v3)]) (st' := [.int (-1 : Int32), .int v2]) (σ' := σ) (by decide +kernel) rfl rfl rfl ?_
    refine fhW.i_eq hΓ (tgt := 110) (show fhbk _ _ (.if_icmp .eq (29)) _ = true by decide +kernel) (fun hc => ?_) (fun hc => ?_)
    · rw [if_pos hc] at h
      refine fhW.blk fhPF fhLL hΓ [(.iload_n 2, 0)] (pc' := 111) (lv' := [(0, .ref 0), (2, .int v2), (3, .int v3)]) (st' := [.int v2]) (σ' := σ) (by decide +kernel) rfl rfl rfl ?_
      have e9 := Option.some.inj h
      subst e9
      exact fhW.iret hΓ (by decide +kernel) hk
    · rw [if_neg hc] at h
      refine fhW.blk fhPF fhLL hΓ [(.aload_n 0, 0), (.getfield 63, 0), (.iload_n 2, 0), (.iload_n 3, 0), (.aload_n 0, 0), (.getfield 14, 0), (.iconst 2, 2), (.iload_n 3, 0), (.iadd, 0)] (pc' := 97) (lv' := [(0, .ref 0), (2, .int v2), (3, .int v3)]) (st' := [.int ((2 : Int32) + v3), .ref 1, .int v3, .int v2, .ref 39]) (σ' := σ) (by decide +kernel) rfl rfl rfl ?_
      refine fhW.callv hΓ mvX2_get ml_11_117 (t := 1) (ci := 2) (av := [.int ((2 : Int32) + v3)]) (rest := [.int v3, .int v2, .ref 39]) (r := (some (.int (fcG σ 1 ((2 : Int32) + v3))))) (σ' := σ) (T_X2_get (E := fhEn Γ) (d := fhD Γ - 1) hE (by omega) 1 ((2 : Int32) + v3) rfl σ) (by omega) (by decide +kernel) rfl rfl rfl (Nat.le_of_ble_eq_true rfl) rfl ?_
      show fhW fhYF Γ 100 [(0, .ref 0), (2, .int v2), (3, .int v3)] [.int (fcG σ 1 ((2 : Int32) + v3)), .int v3, .int v2, .ref 39] σ
      refine fhW.callv hΓ mvX9_withMark ml_11_333 (t := 39) (ci := 9) (av := [.int v2, .int v3, .int (fcG σ 1 ((2 : Int32) + v3))]) (rest := []) (r := (some (.int (f_X9_withMark v2 v3 (fcG σ 1 ((2 : Int32) + v3)) σ)))) (σ' := σ) (T_X9_withMark (E := fhEn Γ) (d := fhD Γ - 1) hE (by omega) v2 v3 (fcG σ 1 ((2 : Int32) + v3)) σ) (by omega) (by decide +kernel) rfl rfl rfl (Nat.le_of_ble_eq_true rfl) rfl ?_
      show fhW fhYF Γ 103 [(0, .ref 0), (2, .int v2), (3, .int v3)] [.int (f_X9_withMark v2 v3 (fcG σ 1 ((2 : Int32) + v3)) σ)] σ
      refine fhW.blk fhPF fhLL hΓ [(.istore_n 2, 0)] (pc' := 104) (lv' := [(2, .int (f_X9_withMark v2 v3 (fcG σ 1 ((2 : Int32) + v3)) σ)), (0, .ref 0), (3, .int v3)]) (st' := []) (σ' := σ) (by decide +kernel) rfl rfl rfl ?_
      obtain ⟨w2_1, e1, h⟩ := fhlet_elim h
      rw [← e1]
      refine fhW.blk fhPF fhLL hΓ [(.iinc 3 1, 1)] (pc' := 107) (lv' := [(3, .int (v3 + (1 : Int32))), (2, .int w2_1), (0, .ref 0)]) (st' := []) (σ' := σ) (by decide +kernel) rfl rfl rfl ?_
      refine fhW.goto hΓ (off := (-39)) (tgt := 68) (by decide +kernel) ?_
      refine fhW.sub (lv' := [(0, .ref 0), (2, .int w2_1), (3, .int (v3 + (1 : Int32)))]) [2, 1, 0] rfl ?_
      have e9 := Option.some.inj h
      subst e9
      exact hk
set_option maxRecDepth 100000 in
set_option maxHeartbeats 4000000 in
theorem L_X11_rowOfPicture_65 {Γ : fhX} (hE : fhEok fhYF (fhEn Γ)) (hΓ : fhOk fhYF 11 cX11_rowOfPicture 4 (some .int) Γ) (hd : 3 ≤ fhD Γ) (s0 : Int32)  (σ : fhM) (o : Int32) (h : f_X11_rowOfPicture_65 s0 σ = some o) (hk : (fun o => fhRet Γ (some (.int o)) σ) o) : fhW fhYF Γ 65 [(0, .ref 0)] [.int s0] σ := by
  unfold f_X11_rowOfPicture_65 at h
  refine fhW.blk fhPF fhLL hΓ [(.istore_n 2, 0), (.iconst 0, 0), (.istore_n 3, 0)] (pc' := 68) (lv' := [(3, .int (0 : Int32)), (2, .int s0), (0, .ref 0)]) (st' := []) (σ' := σ) (by decide +kernel) rfl rfl rfl ?_
  refine fhW.sub (lv' := [(0, .ref 0), (2, .int s0), (3, .int (0 : Int32))]) [2, 1, 0] rfl ?_
  exact fhlp_ok (W := (fun x => fhW fhYF Γ 68 [(0, .ref 0), (2, .int x.1), (3, .int x.2)] [] σ)) (B := (fun o => fhRet Γ (some (.int o)) σ)) (fun x o h hk => L_X11_rowOfPicture_68 hE hΓ hd x.1 x.2 σ o h hk) (s0, (0 : Int32)) _ h hk
set_option maxRecDepth 100000 in
set_option maxHeartbeats 4000000 in
theorem L_X11_rowOfPicture_E {Γ : fhX} (hE : fhEok fhYF (fhEn Γ)) (hΓ : fhOk fhYF 11 cX11_rowOfPicture 4 (some .int) Γ) (hd : 3 ≤ fhD Γ) (v1 : Int32)  (σ : fhM) (o : Int32) (h : f_X11_rowOfPicture v1 σ = some o) (hk : (fun o => fhRet Γ (some (.int o)) σ) o) : fhW fhYF Γ 0 [(0, .ref 0), (1, .int v1)] [] σ := by
  unfold f_X11_rowOfPicture at h
  refine fhW.blk fhPF fhLL hΓ [(.iload_n 1, 0), (.aload_n 0, 0)] (pc' := 2) (lv' := [(0, .ref 0), (1, .int v1)]) (st' := [.ref 0, .int v1]) (σ' := σ) (by decide +kernel) rfl rfl rfl ?_
  refine fhW.callv hΓ mvX11_pictureSize ml_11_388 (t := 0) (ci := 11) (av := []) (rest := [.int v1]) (r := (some (.int (f_X11_pictureSize σ)))) (σ' := σ) (T_X11_pictureSize (E := fhEn Γ) (d := fhD Γ - 1) hE (by omega) σ) (by omega) (by decide +kernel) rfl rfl rfl (Nat.le_of_ble_eq_true rfl) rfl ?_
  show fhW fhYF Γ 5 [(0, .ref 0), (1, .int v1)] [.int (f_X11_pictureSize σ), .int v1] σ
  refine fhW.i_ne hΓ (tgt := 31) (show fhbk _ _ (.if_icmp .ne (26)) _ = true by decide +kernel) (fun hc => ?_) (fun hc => ?_)
  · rw [if_neg hc] at h
    refine fhW.blk fhPF fhLL hΓ [(.iconst (-1), -1)] (pc' := 32) (lv' := [(0, .ref 0), (1, .int v1)]) (st' := [.int (-1 : Int32)]) (σ' := σ) (by decide +kernel) rfl rfl rfl ?_
    have e9 := Option.some.inj h
    subst e9
    exact fhW.iret hΓ (by decide +kernel) hk
  · rw [if_pos hc] at h
    refine fhW.blk fhPF fhLL hΓ [(.aload_n 0, 0), (.getfield 14, 0), (.iload_n 1, 0), (.iconst 1, 1), (.isub, 0)] (pc' := 15) (lv' := [(0, .ref 0), (1, .int v1)]) (st' := [.int (v1 - (1 : Int32)), .ref 1]) (σ' := σ) (by decide +kernel) rfl rfl rfl ?_
    refine fhW.callv hΓ mvX2_get ml_11_117 (t := 1) (ci := 2) (av := [.int (v1 - (1 : Int32))]) (rest := []) (r := (some (.int (fcG σ 1 (v1 - (1 : Int32)))))) (σ' := σ) (T_X2_get (E := fhEn Γ) (d := fhD Γ - 1) hE (by omega) 1 (v1 - (1 : Int32)) rfl σ) (by omega) (by decide +kernel) rfl rfl rfl (Nat.le_of_ble_eq_true rfl) rfl ?_
    show fhW fhYF Γ 18 [(0, .ref 0), (1, .int v1)] [.int (fcG σ 1 (v1 - (1 : Int32)))] σ
    refine fhW.blk fhPF fhLL hΓ [(.aload_n 0, 0), (.getfield 14, 0), (.iload_n 1, 0), (.iconst 1, 1), (.isub, 0)] (pc' := 25) (lv' := [(0, .ref 0), (1, .int v1)]) (st' := [.int (v1 - (1 : Int32)), .ref 1, .int (fcG σ 1 (v1 - (1 : Int32)))]) (σ' := σ) (by decide +kernel) rfl rfl rfl ?_
    obtain ⟨q1, hb1, h⟩ := Option.bind_eq_some_iff.mp h
    refine fhW.calls hΓ msX11_checkByte ml_11_394 (av := [.ref 1, .int (v1 - (1 : Int32))]) (rest := [.int (fcG σ 1 (v1 - (1 : Int32)))]) (r := (some (.int q1))) (σ' := σ) (T_X11_checkByte (E := fhEn Γ) (d := fhD Γ - 1) hE (by omega) 1 (v1 - (1 : Int32)) rfl σ hb1) (by omega) (by decide +kernel) rfl (Nat.le_of_ble_eq_true rfl) rfl ?_
    show fhW fhYF Γ 28 [(0, .ref 0), (1, .int v1)] [.int q1, .int (fcG σ 1 (v1 - (1 : Int32)))] σ
    refine fhW.i_eq hΓ (tgt := 33) (show fhbk _ _ (.if_icmp .eq (5)) _ = true by decide +kernel) (fun hc => ?_) (fun hc => ?_)
    · rw [if_pos hc] at h
      refine fhW.blk fhPF fhLL hΓ [(.aload_n 0, 0), (.getfield 14, 0), (.iconst 0, 0)] (pc' := 38) (lv' := [(0, .ref 0), (1, .int v1)]) (st' := [.int (0 : Int32), .ref 1]) (σ' := σ) (by decide +kernel) rfl rfl rfl ?_
      refine fhW.callv hΓ mvX2_get ml_11_117 (t := 1) (ci := 2) (av := [.int (0 : Int32)]) (rest := []) (r := (some (.int (fcG σ 1 (0 : Int32))))) (σ' := σ) (T_X2_get (E := fhEn Γ) (d := fhD Γ - 1) hE (by omega) 1 (0 : Int32) rfl σ) (by omega) (by decide +kernel) rfl rfl rfl (Nat.le_of_ble_eq_true rfl) rfl ?_
      show fhW fhYF Γ 41 [(0, .ref 0), (1, .int v1)] [.int (fcG σ 1 (0 : Int32))] σ
      refine fhW.blk fhPF fhLL hΓ [(.sipush 256, 256), (.imul, 0), (.aload_n 0, 0), (.getfield 14, 0), (.iconst 1, 1)] (pc' := 50) (lv' := [(0, .ref 0), (1, .int v1)]) (st' := [.int (1 : Int32), .ref 1, .int ((fcG σ 1 (0 : Int32)) * (256 : Int32))]) (σ' := σ) (by decide +kernel) rfl rfl rfl ?_
      refine fhW.callv hΓ mvX2_get ml_11_117 (t := 1) (ci := 2) (av := [.int (1 : Int32)]) (rest := [.int ((fcG σ 1 (0 : Int32)) * (256 : Int32))]) (r := (some (.int (fcG σ 1 (1 : Int32))))) (σ' := σ) (T_X2_get (E := fhEn Γ) (d := fhD Γ - 1) hE (by omega) 1 (1 : Int32) rfl σ) (by omega) (by decide +kernel) rfl rfl rfl (Nat.le_of_ble_eq_true rfl) rfl ?_
      show fhW fhYF Γ 53 [(0, .ref 0), (1, .int v1)] [.int (fcG σ 1 (1 : Int32)), .int ((fcG σ 1 (0 : Int32)) * (256 : Int32))] σ
      refine fhW.blk fhPF fhLL hΓ [(.iadd, 0), (.sipush 999, 999)] (pc' := 57) (lv' := [(0, .ref 0), (1, .int v1)]) (st' := [.int (999 : Int32), .int (((fcG σ 1 (0 : Int32)) * (256 : Int32)) + (fcG σ 1 (1 : Int32)))]) (σ' := σ) (by decide +kernel) rfl rfl rfl ?_
      refine fhW.i_gt hΓ (tgt := 64) (show fhbk _ _ (.if_icmp .gt (7)) _ = true by decide +kernel) (fun hc => ?_) (fun hc => ?_)
      · simp only [if_pos hc] at h
        refine fhW.blk fhPF fhLL hΓ [(.iconst (-1), -1)] (pc' := 65) (lv' := [(0, .ref 0), (1, .int v1)]) (st' := [.int (-1 : Int32)]) (σ' := σ) (by decide +kernel) rfl rfl rfl ?_
        refine fhW.sub (lv' := [(0, .ref 0)]) [0] rfl ?_
        exact L_X11_rowOfPicture_65 hE hΓ hd (-1 : Int32) σ _ h hk
      · simp only [if_neg hc] at h
        refine fhW.blk fhPF fhLL hΓ [(.iconst 0, 0)] (pc' := 61) (lv' := [(0, .ref 0), (1, .int v1)]) (st' := [.int (0 : Int32)]) (σ' := σ) (by decide +kernel) rfl rfl rfl ?_
        refine fhW.goto hΓ (off := 4) (tgt := 65) (by decide +kernel) ?_
        refine fhW.sub (lv' := [(0, .ref 0)]) [0] rfl ?_
        exact L_X11_rowOfPicture_65 hE hΓ hd (0 : Int32) σ _ h hk
    · rw [if_neg hc] at h
      refine fhW.blk fhPF fhLL hΓ [(.iconst (-1), -1)] (pc' := 32) (lv' := [(0, .ref 0), (1, .int v1)]) (st' := [.int (-1 : Int32)]) (σ' := σ) (by decide +kernel) rfl rfl rfl ?_
      have e9 := Option.some.inj h
      subst e9
      exact fhW.iret hΓ (by decide +kernel) hk
set_option maxRecDepth 100000 in
theorem T_X11_rowOfPicture {E : fhE} {d : Nat} (hE : fhEok fhYF E) (hd : 3 ≤ d) (v1 : Int32)  (σ : fhM) {o : Int32} (h : f_X11_rowOfPicture v1 σ = some o) : fhC fhYF E d miX11_rowOfPicture [.ref 0, .int v1] σ (some (.int o)) σ := by
  refine fhC.of (y := yX11_rowOfPicture) (cc := cX11_rowOfPicture) (nL := 4) (ret := (some .int)) 11 rfl (by decide +kernel) (Nat.le_of_ble_eq_true rfl) ?_
  intro Γ hΓ hR hD hEn
  subst hD; subst hEn
  exact L_X11_rowOfPicture_E hE hΓ hd v1  σ _ h hR
set_option maxRecDepth 100000 in
set_option maxHeartbeats 4000000 in
theorem L_X11_tapeBit_E {Γ : fhX} (hE : fhEok fhYF (fhEn Γ)) (hΓ : fhOk fhYF 11 cX11_tapeBit 2 (some .boolean) Γ) (hd : 1 ≤ fhD Γ) (v1 : Int32)  (σ : fhM) (o : Bool) (h : f_X11_tapeBit v1 σ = o) (hk : (fun o => fhRet Γ (some (.int (fhb o))) σ) o) : fhW fhYF Γ 0 [(0, .ref 0), (1, .int v1)] [] σ := by
  unfold f_X11_tapeBit at h
  refine fhW.blk fhPF fhLL hΓ [(.aload_n 0, 0), (.getfield 14, 0), (.iconst 2, 2), (.aload_n 0, 0), (.getfield 63, 0), (.getfield 166, 0), (.iadd, 0), (.iload_n 1, 0), (.iconst 3, 3), (.ishr, 0), (.iadd, 0)] (pc' := 17) (lv' := [(0, .ref 0), (1, .int v1)]) (st' := [.int (((2 : Int32) + (σ.1 39 9)) + (v1 >>> ((3 : Int32) &&& 31))), .ref 1]) (σ' := σ) (by decide +kernel) rfl rfl rfl ?_
  refine fhW.callv hΓ mvX2_get ml_11_117 (t := 1) (ci := 2) (av := [.int (((2 : Int32) + (σ.1 39 9)) + (v1 >>> ((3 : Int32) &&& 31)))]) (rest := []) (r := (some (.int (fcG σ 1 (((2 : Int32) + (σ.1 39 9)) + (v1 >>> ((3 : Int32) &&& 31))))))) (σ' := σ) (T_X2_get (E := fhEn Γ) (d := fhD Γ - 1) hE (by omega) 1 (((2 : Int32) + (σ.1 39 9)) + (v1 >>> ((3 : Int32) &&& 31))) rfl σ) (by omega) (by decide +kernel) rfl rfl rfl (Nat.le_of_ble_eq_true rfl) rfl ?_
  show fhW fhYF Γ 20 [(0, .ref 0), (1, .int v1)] [.int (fcG σ 1 (((2 : Int32) + (σ.1 39 9)) + (v1 >>> ((3 : Int32) &&& 31))))] σ
  refine fhW.blk fhPF fhLL hΓ [(.iload_n 1, 0), (.bipush 7, 7), (.iand, 0), (.ishr, 0), (.iconst 1, 1), (.iand, 0)] (pc' := 27) (lv' := [(0, .ref 0), (1, .int v1)]) (st' := [.int (((fcG σ 1 (((2 : Int32) + (σ.1 39 9)) + (v1 >>> ((3 : Int32) &&& 31)))) >>> ((v1 &&& (7 : Int32)) &&& 31)) &&& (1 : Int32))]) (σ' := σ) (by decide +kernel) rfl rfl rfl ?_
  refine fhW.z_eq hΓ (tgt := 34) (show fhbk _ _ (.ifCond .eq (7)) _ = true by decide +kernel) (fun hc => ?_) (fun hc => ?_)
  · rw [if_pos hc] at h
    refine fhW.blk fhPF fhLL hΓ [(.iconst 0, 0)] (pc' := 35) (lv' := [(0, .ref 0), (1, .int v1)]) (st' := [.int (0 : Int32)]) (σ' := σ) (by decide +kernel) rfl rfl rfl ?_
    subst h
    exact fhW.zret (v := false) hΓ (by decide +kernel) hk
  · rw [if_neg hc] at h
    refine fhW.blk fhPF fhLL hΓ [(.iconst 1, 1)] (pc' := 31) (lv' := [(0, .ref 0), (1, .int v1)]) (st' := [.int (1 : Int32)]) (σ' := σ) (by decide +kernel) rfl rfl rfl ?_
    refine fhW.goto hΓ (off := 4) (tgt := 35) (by decide +kernel) ?_
    subst h
    exact fhW.zret (v := true) hΓ (by decide +kernel) hk
set_option maxRecDepth 100000 in
theorem T_X11_tapeBit {E : fhE} {d : Nat} (hE : fhEok fhYF E) (hd : 1 ≤ d) (v1 : Int32)  (σ : fhM) : fhC fhYF E d miX11_tapeBit [.ref 0, .int v1] σ (some (.int (fhb (f_X11_tapeBit v1 σ)))) σ := by
  refine fhC.of (y := yX11_tapeBit) (cc := cX11_tapeBit) (nL := 2) (ret := (some .boolean)) 11 rfl (by decide +kernel) (Nat.le_of_ble_eq_true rfl) ?_
  intro Γ hΓ hR hD hEn
  subst hD; subst hEn
  exact L_X11_tapeBit_E hE hΓ hd v1  σ _ rfl hR
set_option maxRecDepth 100000 in
set_option maxHeartbeats 4000000 in
theorem L_X11_isLeftFitting_45 {Γ : fhX} (hE : fhEok fhYF (fhEn Γ)) (hΓ : fhOk fhYF 11 cX11_isLeftFitting 4 (some .boolean) Γ) (hd : 2 ≤ fhD Γ) (v1 : Int32) (v2 : Int32) (v3 : Int32)  (σ : fhM) (o : (Int32) ⊕ (Bool)) (h : f_X11_isLeftFitting_45 v1 v2 v3 σ = some o) (hk : (fhK (fun x => fhW fhYF Γ 19 [(0, .ref 0), (1, .int v1), (2, .int v2), (3, .int x)] [] σ) (fun o => fhRet Γ (some (.int (fhb o))) σ)) o) : fhW fhYF Γ 45 [(0, .ref 0), (1, .int v1), (2, .int v2), (3, .int v3)] [] σ := by
  unfold f_X11_isLeftFitting_45 at h
  refine fhW.blk fhPF fhLL hΓ [(.iinc 3 1, 1)] (pc' := 48) (lv' := [(3, .int (v3 + (1 : Int32))), (0, .ref 0), (1, .int v1), (2, .int v2)]) (st' := []) (σ' := σ) (by decide +kernel) rfl rfl rfl ?_
  refine fhW.goto hΓ (off := (-29)) (tgt := 19) (by decide +kernel) ?_
  refine fhW.sub (lv' := [(0, .ref 0), (1, .int v1), (2, .int v2), (3, .int (v3 + (1 : Int32)))]) [1, 2, 3, 0] rfl ?_
  have e9 := Option.some.inj h
  subst e9
  exact hk
set_option maxRecDepth 100000 in
set_option maxHeartbeats 4000000 in
theorem L_X11_isLeftFitting_19 {Γ : fhX} (hE : fhEok fhYF (fhEn Γ)) (hΓ : fhOk fhYF 11 cX11_isLeftFitting 4 (some .boolean) Γ) (hd : 2 ≤ fhD Γ) (v1 : Int32) (v2 : Int32) (v3 : Int32)  (σ : fhM) (o : (Int32) ⊕ (Bool)) (h : f_X11_isLeftFitting_19 v1 v2 v3 σ = some o) (hk : (fhK (fun x => fhW fhYF Γ 19 [(0, .ref 0), (1, .int v1), (2, .int v2), (3, .int x)] [] σ) (fun o => fhRet Γ (some (.int (fhb o))) σ)) o) : fhW fhYF Γ 19 [(0, .ref 0), (1, .int v1), (2, .int v2), (3, .int v3)] [] σ := by
  unfold f_X11_isLeftFitting_19 at h
  refine fhW.blk fhPF fhLL hΓ [(.iload_n 3, 0), (.iload_n 2, 0)] (pc' := 21) (lv' := [(0, .ref 0), (1, .int v1), (2, .int v2), (3, .int v3)]) (st' := [.int v2, .int v3]) (σ' := σ) (by decide +kernel) rfl rfl rfl ?_
  refine fhW.i_ge hΓ (tgt := 51) (show fhbk _ _ (.if_icmp .ge (30)) _ = true by decide +kernel) (fun hc => ?_) (fun hc => ?_)
  · rw [if_pos hc] at h
    refine fhW.blk fhPF fhLL hΓ [(.aload_n 0, 0), (.iload_n 1, 0)] (pc' := 53) (lv' := [(0, .ref 0), (1, .int v1), (2, .int v2), (3, .int v3)]) (st' := [.int v1, .ref 0]) (σ' := σ) (by decide +kernel) rfl rfl rfl ?_
    refine fhW.callv hΓ mvX11_tapeBit ml_11_403 (t := 0) (ci := 11) (av := [.int v1]) (rest := []) (r := (some (.int (fhb (f_X11_tapeBit v1 σ))))) (σ' := σ) (T_X11_tapeBit (E := fhEn Γ) (d := fhD Γ - 1) hE (by omega) v1 σ) (by omega) (by decide +kernel) rfl rfl rfl (Nat.le_of_ble_eq_true rfl) rfl ?_
    show fhW fhYF Γ 56 [(0, .ref 0), (1, .int v1), (2, .int v2), (3, .int v3)] [.int (fhb (f_X11_tapeBit v1 σ))] σ
    have e9 := Option.some.inj h
    subst e9
    exact fhW.zret (v := (f_X11_tapeBit v1 σ)) hΓ (by decide +kernel) hk
  · rw [if_neg hc] at h
    refine fhW.blk fhPF fhLL hΓ [(.aload_n 0, 0), (.iload_n 3, 0)] (pc' := 26) (lv' := [(0, .ref 0), (1, .int v1), (2, .int v2), (3, .int v3)]) (st' := [.int v3, .ref 0]) (σ' := σ) (by decide +kernel) rfl rfl rfl ?_
    refine fhW.callv hΓ mvX11_tapeBit ml_11_403 (t := 0) (ci := 11) (av := [.int v3]) (rest := []) (r := (some (.int (fhb (f_X11_tapeBit v3 σ))))) (σ' := σ) (T_X11_tapeBit (E := fhEn Γ) (d := fhD Γ - 1) hE (by omega) v3 σ) (by omega) (by decide +kernel) rfl rfl rfl (Nat.le_of_ble_eq_true rfl) rfl ?_
    show fhW fhYF Γ 29 [(0, .ref 0), (1, .int v1), (2, .int v2), (3, .int v3)] [.int (fhb (f_X11_tapeBit v3 σ))] σ
    refine fhW.b_eq hΓ (tgt := 45) (show fhbk _ _ (.ifCond .eq (16)) _ = true by decide +kernel) (fun hc => ?_) (fun hc => ?_)
    · rw [if_neg hc] at h
      refine fhW.sub (lv' := [(0, .ref 0), (1, .int v1), (2, .int v2), (3, .int v3)]) [0, 1, 2, 3] rfl ?_
      exact L_X11_isLeftFitting_45 hE hΓ hd v1 v2 v3 σ _ h hk
    · rw [if_pos hc] at h
      refine fhW.blk fhPF fhLL hΓ [(.aload_n 0, 0), (.getfield 63, 0), (.iload_n 3, 0)] (pc' := 37) (lv' := [(0, .ref 0), (1, .int v1), (2, .int v2), (3, .int v3)]) (st' := [.int v3, .ref 39]) (σ' := σ) (by decide +kernel) rfl rfl rfl ?_
      refine fhW.callv hΓ mvX9_isAllowed ml_11_337 (t := 39) (ci := 9) (av := [.int v3]) (rest := []) (r := (some (.int (fhb (f_X9_isAllowed v3 σ))))) (σ' := σ) (T_X9_isAllowed (E := fhEn Γ) (d := fhD Γ - 1) hE (by omega) v3 σ) (by omega) (by decide +kernel) rfl rfl rfl (Nat.le_of_ble_eq_true rfl) rfl ?_
      show fhW fhYF Γ 40 [(0, .ref 0), (1, .int v1), (2, .int v2), (3, .int v3)] [.int (fhb (f_X9_isAllowed v3 σ))] σ
      refine fhW.b_ne hΓ (tgt := 45) (show fhbk _ _ (.ifCond .ne (5)) _ = true by decide +kernel) (fun hc => ?_) (fun hc => ?_)
      · rw [if_pos hc] at h
        refine fhW.sub (lv' := [(0, .ref 0), (1, .int v1), (2, .int v2), (3, .int v3)]) [0, 1, 2, 3] rfl ?_
        exact L_X11_isLeftFitting_45 hE hΓ hd v1 v2 v3 σ _ h hk
      · rw [if_neg hc] at h
        refine fhW.blk fhPF fhLL hΓ [(.iconst 0, 0)] (pc' := 44) (lv' := [(0, .ref 0), (1, .int v1), (2, .int v2), (3, .int v3)]) (st' := [.int (0 : Int32)]) (σ' := σ) (by decide +kernel) rfl rfl rfl ?_
        have e9 := Option.some.inj h
        subst e9
        exact fhW.zret (v := false) hΓ (by decide +kernel) hk
set_option maxRecDepth 100000 in
set_option maxHeartbeats 4000000 in
theorem L_X11_isLeftFitting_E {Γ : fhX} (hE : fhEok fhYF (fhEn Γ)) (hΓ : fhOk fhYF 11 cX11_isLeftFitting 4 (some .boolean) Γ) (hd : 2 ≤ fhD Γ) (v1 : Int32)  (σ : fhM) (o : Bool) (h : f_X11_isLeftFitting v1 σ = some o) (hk : (fun o => fhRet Γ (some (.int (fhb o))) σ) o) : fhW fhYF Γ 0 [(0, .ref 0), (1, .int v1)] [] σ := by
  unfold f_X11_isLeftFitting at h
  refine fhW.blk fhPF fhLL hΓ [(.aload_n 0, 0), (.getfield 63, 0), (.getfield 249, 0), (.bipush 7, 7), (.iadd, 0), (.bipush 8, 8), (.idiv, 0), (.bipush 8, 8), (.imul, 0), (.istore_n 2, 0)] (pc' := 17) (lv' := [(2, .int ((((σ.1 39 11) + (7 : Int32)) / (8 : Int32)) * (8 : Int32))), (0, .ref 0), (1, .int v1)]) (st' := []) (σ' := σ) (by decide +kernel) rfl rfl rfl ?_
  obtain ⟨w2_1, e1, h⟩ := fhlet_elim h
  rw [← e1]
  refine fhW.blk fhPF fhLL hΓ [(.iconst 0, 0), (.istore_n 3, 0)] (pc' := 19) (lv' := [(3, .int (0 : Int32)), (2, .int w2_1), (0, .ref 0), (1, .int v1)]) (st' := []) (σ' := σ) (by decide +kernel) rfl rfl rfl ?_
  refine fhW.sub (lv' := [(0, .ref 0), (1, .int v1), (2, .int w2_1), (3, .int (0 : Int32))]) [2, 3, 1, 0] rfl ?_
  exact fhlp_ok (W := (fun x => fhW fhYF Γ 19 [(0, .ref 0), (1, .int v1), (2, .int w2_1), (3, .int x)] [] σ)) (B := (fun o => fhRet Γ (some (.int (fhb o))) σ)) (fun x o h hk => L_X11_isLeftFitting_19 hE hΓ hd v1 w2_1 x σ o h hk) (0 : Int32) _ h hk
set_option maxRecDepth 100000 in
theorem T_X11_isLeftFitting {E : fhE} {d : Nat} (hE : fhEok fhYF E) (hd : 2 ≤ d) (v1 : Int32)  (σ : fhM) {o : Bool} (h : f_X11_isLeftFitting v1 σ = some o) : fhC fhYF E d miX11_isLeftFitting [.ref 0, .int v1] σ (some (.int (fhb o))) σ := by
  refine fhC.of (y := yX11_isLeftFitting) (cc := cX11_isLeftFitting) (nL := 4) (ret := (some .boolean)) 11 rfl (by decide +kernel) (Nat.le_of_ble_eq_true rfl) ?_
  intro Γ hΓ hR hD hEn
  subst hD; subst hEn
  exact L_X11_isLeftFitting_E hE hΓ hd v1  σ _ h hR
set_option maxRecDepth 100000 in
set_option maxHeartbeats 4000000 in
theorem L_X11_on_35 {Γ : fhX} (hE : fhEok fhYF (fhEn Γ)) (hΓ : fhOk fhYF 11 cX11_on 4 (some .boolean) Γ) (hd : 4 ≤ fhD Γ)   (σ : fhM) (o : Bool × fhM) (h : f_X11_on_35 σ = some o) (hk : (fun o => fhRet Γ (some (.int (fhb o.1))) o.2) o) : fhW fhYF Γ 35 [(0, .ref 0)] [] σ := by
  unfold f_X11_on_35 at h
  refine fhW.blk fhPF fhLL hΓ [(.aload_n 0, 0), (.iconst 5, 5)] (pc' := 37) (lv' := [(0, .ref 0)]) (st' := [.int (5 : Int32), .ref 0]) (σ' := σ) (by decide +kernel) rfl rfl rfl ?_
  refine fhW.callv hΓ mvX11_refuse ml_11_106 (t := 0) (ci := 11) (av := [.int (5 : Int32)]) (rest := []) (r := (some (.int (f_X11_refuse (5 : Int32) σ).1))) (σ' := (f_X11_refuse (5 : Int32) σ).2) (T_X11_refuse (E := fhEn Γ) (d := fhD Γ - 1) hE (by omega) (5 : Int32) σ) (by omega) (by decide +kernel) rfl rfl rfl (Nat.le_of_ble_eq_true rfl) rfl ?_
  show fhW fhYF Γ 40 [(0, .ref 0)] [.int (f_X11_refuse (5 : Int32) σ).1] (f_X11_refuse (5 : Int32) σ).2
  obtain ⟨q4, e1, h⟩ := fhlet_elim h
  rw [← e1]
  refine fhW.blk fhPF fhLL hΓ [(.pop, 0), (.iconst 0, 0)] (pc' := 42) (lv' := [(0, .ref 0)]) (st' := [.int (0 : Int32)]) (σ' := q4.2) (by decide +kernel) rfl rfl rfl ?_
  have e9 := Option.some.inj h
  subst e9
  exact fhW.zret (v := false) hΓ (by decide +kernel) hk
set_option maxRecDepth 100000 in
set_option maxHeartbeats 4000000 in
theorem L_X11_on_103 {Γ : fhX} (hE : fhEok fhYF (fhEn Γ)) (hΓ : fhOk fhYF 11 cX11_on 4 (some .boolean) Γ) (hd : 4 ≤ fhD Γ) (v2 : Int32) (v3 : Int32)  (σ : fhM) (o : (Int32 × fhM) ⊕ (Bool × fhM)) (h : f_X11_on_103 v2 v3 σ = some o) (hk : (fhK (fun x => fhW fhYF Γ 53 [(0, .ref 0), (2, .int v2), (3, .int x.1)] [] x.2) (fun o => fhRet Γ (some (.int (fhb o.1))) o.2)) o) : fhW fhYF Γ 103 [(0, .ref 0), (2, .int v2), (3, .int v3)] [] σ := by
  unfold f_X11_on_103 at h
  refine fhW.blk fhPF fhLL hΓ [(.iinc 3 1, 1)] (pc' := 106) (lv' := [(3, .int (v3 + (1 : Int32))), (0, .ref 0), (2, .int v2)]) (st' := []) (σ' := σ) (by decide +kernel) rfl rfl rfl ?_
  refine fhW.goto hΓ (off := (-53)) (tgt := 53) (by decide +kernel) ?_
  refine fhW.sub (lv' := [(0, .ref 0), (2, .int v2), (3, .int (v3 + (1 : Int32)))]) [1, 2, 0] rfl ?_
  have e9 := Option.some.inj h
  subst e9
  exact hk
set_option maxRecDepth 100000 in
set_option maxHeartbeats 4000000 in
theorem L_X11_on_53 {Γ : fhX} (hE : fhEok fhYF (fhEn Γ)) (hΓ : fhOk fhYF 11 cX11_on 4 (some .boolean) Γ) (hd : 4 ≤ fhD Γ) (v2 : Int32) (v3 : Int32)  (σ : fhM) (o : (Int32 × fhM) ⊕ (Bool × fhM)) (h : f_X11_on_53 v2 v3 σ = some o) (hk : (fhK (fun x => fhW fhYF Γ 53 [(0, .ref 0), (2, .int v2), (3, .int x.1)] [] x.2) (fun o => fhRet Γ (some (.int (fhb o.1))) o.2)) o) : fhW fhYF Γ 53 [(0, .ref 0), (2, .int v2), (3, .int v3)] [] σ := by
  unfold f_X11_on_53 at h
  refine fhW.blk fhPF fhLL hΓ [(.iload_n 3, 0), (.aload_n 0, 0), (.getfield 63, 0), (.getfield 249, 0)] (pc' := 61) (lv' := [(0, .ref 0), (2, .int v2), (3, .int v3)]) (st' := [.int (σ.1 39 11), .int v3]) (σ' := σ) (by decide +kernel) rfl rfl rfl ?_
  refine fhW.i_ge hΓ (tgt := 109) (show fhbk _ _ (.if_icmp .ge (48)) _ = true by decide +kernel) (fun hc => ?_) (fun hc => ?_)
  · rw [if_pos hc] at h
    refine fhW.blk fhPF fhLL hΓ [(.aload_n 0, 0), (.getfield 72, 0), (.aload_n 0, 0), (.getfield 14, 0), (.iconst 0, 0)] (pc' := 118) (lv' := [(0, .ref 0), (2, .int v2), (3, .int v3)]) (st' := [.int (0 : Int32), .ref 1, .ref 56]) (σ' := σ) (by decide +kernel) rfl rfl rfl ?_
    refine fhW.callv hΓ mvX2_get ml_11_117 (t := 1) (ci := 2) (av := [.int (0 : Int32)]) (rest := [.ref 56]) (r := (some (.int (fcG σ 1 (0 : Int32))))) (σ' := σ) (T_X2_get (E := fhEn Γ) (d := fhD Γ - 1) hE (by omega) 1 (0 : Int32) rfl σ) (by omega) (by decide +kernel) rfl rfl rfl (Nat.le_of_ble_eq_true rfl) rfl ?_
    show fhW fhYF Γ 121 [(0, .ref 0), (2, .int v2), (3, .int v3)] [.int (fcG σ 1 (0 : Int32)), .ref 56] σ
    refine fhW.blk fhPF fhLL hΓ [(.sipush 256, 256), (.imul, 0), (.aload_n 0, 0), (.getfield 14, 0), (.iconst 1, 1)] (pc' := 130) (lv' := [(0, .ref 0), (2, .int v2), (3, .int v3)]) (st' := [.int (1 : Int32), .ref 1, .int ((fcG σ 1 (0 : Int32)) * (256 : Int32)), .ref 56]) (σ' := σ) (by decide +kernel) rfl rfl rfl ?_
    refine fhW.callv hΓ mvX2_get ml_11_117 (t := 1) (ci := 2) (av := [.int (1 : Int32)]) (rest := [.int ((fcG σ 1 (0 : Int32)) * (256 : Int32)), .ref 56]) (r := (some (.int (fcG σ 1 (1 : Int32))))) (σ' := σ) (T_X2_get (E := fhEn Γ) (d := fhD Γ - 1) hE (by omega) 1 (1 : Int32) rfl σ) (by omega) (by decide +kernel) rfl rfl rfl (Nat.le_of_ble_eq_true rfl) rfl ?_
    show fhW fhYF Γ 133 [(0, .ref 0), (2, .int v2), (3, .int v3)] [.int (fcG σ 1 (1 : Int32)), .int ((fcG σ 1 (0 : Int32)) * (256 : Int32)), .ref 56] σ
    refine fhW.blk fhPF fhLL hΓ [(.iadd, 0), (.putfield 175, 0), (.aload_n 0, 0), (.getfield 72, 0), (.iload_n 2, 0), (.putfield 208, 0), (.aload_n 0, 0), (.getfield 72, 0)] (pc' := 149) (lv' := [(0, .ref 0), (2, .int v2), (3, .int v3)]) (st' := [.ref 56]) (σ' := (fhI (fhI σ 56 10 (((fcG σ 1 (0 : Int32)) * (256 : Int32)) + (fcG σ 1 (1 : Int32)))) 56 9 v2)) (by decide +kernel) rfl rfl rfl ?_
    obtain ⟨q5, hb1, h⟩ := Option.bind_eq_some_iff.mp h
    refine fhW.callv hΓ mvX4_settle ml_11_406 (t := 56) (ci := 4) (av := []) (rest := []) (r := none) (σ' := q5) (T_X4_settle (E := fhEn Γ) (d := fhD Γ - 1) hE (by omega) (fhI (fhI σ 56 10 (((fcG σ 1 (0 : Int32)) * (256 : Int32)) + (fcG σ 1 (1 : Int32)))) 56 9 v2) hb1) (by omega) (by decide +kernel) rfl rfl rfl (Nat.le_of_ble_eq_true rfl) rfl ?_
    show fhW fhYF Γ 152 [(0, .ref 0), (2, .int v2), (3, .int v3)] [] q5
    refine fhW.blk fhPF fhLL hΓ [(.aload_n 0, 0), (.getfield 86, 0)] (pc' := 156) (lv' := [(0, .ref 0), (2, .int v2), (3, .int v3)]) (st' := [.ref 93]) (σ' := q5) (by decide +kernel) rfl rfl rfl ?_
    refine fhW.callv hΓ mvX6_wipe ml_11_148 (t := 93) (ci := 6) (av := []) (rest := []) (r := none) (σ' := (f_X6_wipe q5)) (T_X6_wipe (E := fhEn Γ) (d := fhD Γ - 1) hE (by omega) q5) (by omega) (by decide +kernel) rfl rfl rfl (Nat.le_of_ble_eq_true rfl) rfl ?_
    show fhW fhYF Γ 159 [(0, .ref 0), (2, .int v2), (3, .int v3)] [] (f_X6_wipe q5)
    obtain ⟨q6, e2, h⟩ := fhlet_elim h
    rw [← e2]
    refine fhW.blk fhPF fhLL hΓ [(.iconst 1, 1)] (pc' := 160) (lv' := [(0, .ref 0), (2, .int v2), (3, .int v3)]) (st' := [.int (1 : Int32)]) (σ' := q6) (by decide +kernel) rfl rfl rfl ?_
    have e9 := Option.some.inj h
    subst e9
    exact fhW.zret (v := true) hΓ (by decide +kernel) hk
  · rw [if_neg hc] at h
    refine fhW.blk fhPF fhLL hΓ [(.aload_n 0, 0), (.iload_n 3, 0)] (pc' := 66) (lv' := [(0, .ref 0), (2, .int v2), (3, .int v3)]) (st' := [.int v3, .ref 0]) (σ' := σ) (by decide +kernel) rfl rfl rfl ?_
    refine fhW.callv hΓ mvX11_tapeBit ml_11_403 (t := 0) (ci := 11) (av := [.int v3]) (rest := []) (r := (some (.int (fhb (f_X11_tapeBit v3 σ))))) (σ' := σ) (T_X11_tapeBit (E := fhEn Γ) (d := fhD Γ - 1) hE (by omega) v3 σ) (by omega) (by decide +kernel) rfl rfl rfl (Nat.le_of_ble_eq_true rfl) rfl ?_
    show fhW fhYF Γ 69 [(0, .ref 0), (2, .int v2), (3, .int v3)] [.int (fhb (f_X11_tapeBit v3 σ))] σ
    refine fhW.b_eq hΓ (tgt := 103) (show fhbk _ _ (.ifCond .eq (34)) _ = true by decide +kernel) (fun hc => ?_) (fun hc => ?_)
    · rw [if_neg hc] at h
      refine fhW.sub (lv' := [(0, .ref 0), (2, .int v2), (3, .int v3)]) [0, 1, 2] rfl ?_
      exact L_X11_on_103 hE hΓ hd v2 v3 σ _ h hk
    · rw [if_pos hc] at h
      refine fhW.blk fhPF fhLL hΓ [(.aload_n 0, 0), (.getfield 72, 0), (.getfield 246, 0), (.aload_n 0, 0), (.getfield 72, 0), (.getfield 178, 0), (.iload_n 3, 0)] (pc' := 87) (lv' := [(0, .ref 0), (2, .int v2), (3, .int v3)]) (st' := [.int v3, .int (σ.1 56 8), .ref 72]) (σ' := σ) (by decide +kernel) rfl rfl rfl ?_
      refine fhW.callv hΓ mvX2_put ml_11_113 (t := 72) (ci := 2) (av := [.int (σ.1 56 8), .int v3]) (rest := []) (r := none) (σ' := (fcP σ 72 (σ.1 56 8) v3)) (T_X2_put (E := fhEn Γ) (d := fhD Γ - 1) hE (by omega) 72 (σ.1 56 8) v3 rfl σ) (by omega) (by decide +kernel) rfl rfl rfl (Nat.le_of_ble_eq_true rfl) rfl ?_
      show fhW fhYF Γ 90 [(0, .ref 0), (2, .int v2), (3, .int v3)] [] (fcP σ 72 (σ.1 56 8) v3)
      refine fhW.blk fhPF fhLL hΓ [(.aload_n 0, 0), (.getfield 72, 0), (.dup, 0), (.getfield 178, 0), (.iconst 1, 1), (.iadd, 0), (.putfield 178, 0)] (pc' := 103) (lv' := [(0, .ref 0), (2, .int v2), (3, .int v3)]) (st' := []) (σ' := (fhI (fcP σ 72 (σ.1 56 8) v3) 56 8 ((σ.1 56 8) + (1 : Int32)))) (by decide +kernel) rfl rfl rfl ?_
      refine fhW.sub (lv' := [(0, .ref 0), (2, .int v2), (3, .int v3)]) [0, 1, 2] rfl ?_
      exact L_X11_on_103 hE hΓ hd v2 v3 (fhI (fcP σ 72 (σ.1 56 8) v3) 56 8 ((σ.1 56 8) + (1 : Int32))) _ h hk
set_option maxRecDepth 100000 in
set_option maxHeartbeats 4000000 in
theorem L_X11_on_21 {Γ : fhX} (hE : fhEok fhYF (fhEn Γ)) (hΓ : fhOk fhYF 11 cX11_on 4 (some .boolean) Γ) (hd : 4 ≤ fhD Γ) (s0 : Int32)  (σ : fhM) (o : Bool × fhM) (h : f_X11_on_21 s0 σ = some o) (hk : (fun o => fhRet Γ (some (.int (fhb o.1))) o.2) o) : fhW fhYF Γ 21 [(0, .ref 0)] [.int s0] σ := by
  unfold f_X11_on_21 at h
  refine fhW.blk fhPF fhLL hΓ [(.istore_n 2, 0), (.iload_n 2, 0), (.iconst (-1), -1)] (pc' := 24) (lv' := [(2, .int s0), (0, .ref 0)]) (st' := [.int (-1 : Int32), .int s0]) (σ' := σ) (by decide +kernel) rfl rfl rfl ?_
  refine fhW.i_eq hΓ (tgt := 35) (show fhbk _ _ (.if_icmp .eq (11)) _ = true by decide +kernel) (fun hc => ?_) (fun hc => ?_)
  · rw [if_pos hc] at h
    refine fhW.sub (lv' := [(0, .ref 0)]) [1] rfl ?_
    exact L_X11_on_35 hE hΓ hd σ _ h hk
  · rw [if_neg hc] at h
    refine fhW.blk fhPF fhLL hΓ [(.aload_n 0, 0), (.iload_n 2, 0)] (pc' := 29) (lv' := [(2, .int s0), (0, .ref 0)]) (st' := [.int s0, .ref 0]) (σ' := σ) (by decide +kernel) rfl rfl rfl ?_
    obtain ⟨q3, hb2, h⟩ := Option.bind_eq_some_iff.mp h
    refine fhW.callv hΓ mvX11_isLeftFitting ml_11_400 (t := 0) (ci := 11) (av := [.int s0]) (rest := []) (r := (some (.int (fhb q3)))) (σ' := σ) (T_X11_isLeftFitting (E := fhEn Γ) (d := fhD Γ - 1) hE (by omega) s0 σ hb2) (by omega) (by decide +kernel) rfl rfl rfl (Nat.le_of_ble_eq_true rfl) rfl ?_
    show fhW fhYF Γ 32 [(2, .int s0), (0, .ref 0)] [.int (fhb q3)] σ
    refine fhW.b_ne hΓ (tgt := 43) (show fhbk _ _ (.ifCond .ne (11)) _ = true by decide +kernel) (fun hc => ?_) (fun hc => ?_)
    · rw [if_pos hc] at h
      refine fhW.blk fhPF fhLL hΓ [(.aload_n 0, 0), (.getfield 72, 0), (.iconst 0, 0), (.putfield 178, 0), (.iconst 0, 0), (.istore_n 3, 0)] (pc' := 53) (lv' := [(3, .int (0 : Int32)), (2, .int s0), (0, .ref 0)]) (st' := []) (σ' := (fhI σ 56 8 (0 : Int32))) (by decide +kernel) rfl rfl rfl ?_
      refine fhW.sub (lv' := [(0, .ref 0), (2, .int s0), (3, .int (0 : Int32))]) [2, 1, 0] rfl ?_
      exact fhlp_ok (W := (fun x => fhW fhYF Γ 53 [(0, .ref 0), (2, .int s0), (3, .int x.1)] [] x.2)) (B := (fun o => fhRet Γ (some (.int (fhb o.1))) o.2)) (fun x o h hk => L_X11_on_53 hE hΓ hd s0 x.1 x.2 o h hk) ((0 : Int32), (fhI σ 56 8 (0 : Int32))) _ h hk
    · rw [if_neg hc] at h
      refine fhW.sub (lv' := [(0, .ref 0)]) [1] rfl ?_
      exact L_X11_on_35 hE hΓ hd σ _ h hk
set_option maxRecDepth 100000 in
set_option maxHeartbeats 4000000 in
theorem L_X11_on_E {Γ : fhX} (hE : fhEok fhYF (fhEn Γ)) (hΓ : fhOk fhYF 11 cX11_on 4 (some .boolean) Γ) (hd : 4 ≤ fhD Γ)   (σ : fhM) (o : Bool × fhM) (h : f_X11_on σ = some o) (hk : (fun o => fhRet Γ (some (.int (fhb o.1))) o.2) o) : fhW fhYF Γ 0 [(0, .ref 0)] [] σ := by
  unfold f_X11_on at h
  refine fhW.blk fhPF fhLL hΓ [(.aload_n 0, 0)] (pc' := 1) (lv' := [(0, .ref 0)]) (st' := [.ref 0]) (σ' := σ) (by decide +kernel) rfl rfl rfl ?_
  refine fhW.callv hΓ mvX11_takeTape ml_11_120 (t := 0) (ci := 11) (av := []) (rest := []) (r := (some (.int (f_X11_takeTape σ).1))) (σ' := (f_X11_takeTape σ).2) (T_X11_takeTape (E := fhEn Γ) (d := fhD Γ - 1) hE (by omega) σ) (by omega) (by decide +kernel) rfl rfl rfl (Nat.le_of_ble_eq_true rfl) rfl ?_
  show fhW fhYF Γ 4 [(0, .ref 0)] [.int (f_X11_takeTape σ).1] (f_X11_takeTape σ).2
  obtain ⟨q1, e3, h⟩ := fhlet_elim h
  rw [← e3]
  refine fhW.blk fhPF fhLL hΓ [(.istore_n 1, 0), (.aload_n 0, 0), (.getfield 131, 0)] (pc' := 9) (lv' := [(1, .int q1.1), (0, .ref 0)]) (st' := [.int (q1.2.1 0 8)]) (σ' := q1.2) (by decide +kernel) rfl rfl rfl ?_
  refine fhW.z_eq hΓ (tgt := 20) (show fhbk _ _ (.ifCond .eq (11)) _ = true by decide +kernel) (fun hc => ?_) (fun hc => ?_)
  · rw [if_pos hc] at h
    refine fhW.blk fhPF fhLL hΓ [(.iconst (-1), -1)] (pc' := 21) (lv' := [(1, .int q1.1), (0, .ref 0)]) (st' := [.int (-1 : Int32)]) (σ' := q1.2) (by decide +kernel) rfl rfl rfl ?_
    refine fhW.sub (lv' := [(0, .ref 0)]) [1] rfl ?_
    exact L_X11_on_21 hE hΓ hd (-1 : Int32) q1.2 _ h hk
  · rw [if_neg hc] at h
    refine fhW.blk fhPF fhLL hΓ [(.aload_n 0, 0), (.iload_n 1, 0)] (pc' := 14) (lv' := [(1, .int q1.1), (0, .ref 0)]) (st' := [.int q1.1, .ref 0]) (σ' := q1.2) (by decide +kernel) rfl rfl rfl ?_
    obtain ⟨q2, hb3, h⟩ := Option.bind_eq_some_iff.mp h
    refine fhW.callv hΓ mvX11_rowOfPicture ml_11_397 (t := 0) (ci := 11) (av := [.int q1.1]) (rest := []) (r := (some (.int q2))) (σ' := q1.2) (T_X11_rowOfPicture (E := fhEn Γ) (d := fhD Γ - 1) hE (by omega) q1.1 q1.2 hb3) (by omega) (by decide +kernel) rfl rfl rfl (Nat.le_of_ble_eq_true rfl) rfl ?_
    show fhW fhYF Γ 17 [(1, .int q1.1), (0, .ref 0)] [.int q2] q1.2
    refine fhW.goto hΓ (off := 4) (tgt := 21) (by decide +kernel) ?_
    refine fhW.sub (lv' := [(0, .ref 0)]) [1] rfl ?_
    exact L_X11_on_21 hE hΓ hd q2 q1.2 _ h hk
set_option maxRecDepth 100000 in
theorem T_X11_on {E : fhE} {d : Nat} (hE : fhEok fhYF E) (hd : 4 ≤ d)   (σ : fhM) {o : Bool × fhM} (h : f_X11_on σ = some o) : fhC fhYF E d miX11_on [.ref 0] σ (some (.int (fhb o.1))) o.2 := by
  refine fhC.of (y := yX11_on) (cc := cX11_on) (nL := 4) (ret := (some .boolean)) 11 rfl (by decide +kernel) (Nat.le_of_ble_eq_true rfl) ?_
  intro Γ hΓ hR hD hEn
  subst hD; subst hEn
  exact L_X11_on_E hE hΓ hd   σ _ h hR
set_option maxRecDepth 100000 in
set_option maxHeartbeats 4000000 in
theorem L_X11_status_E {Γ : fhX} (hE : fhEok fhYF (fhEn Γ)) (hΓ : fhOk fhYF 11 cX11_status 2 (some .int) Γ) (hd : 1 ≤ fhD Γ) (v1 : Int32)  (σ : fhM) (o : Int32) (h : f_X11_status v1 σ = o) (hk : (fun o => fhRet Γ (some (.int o)) σ) o) : fhW fhYF Γ 0 [(0, .ref 0), (1, .int v1)] [] σ := by
  unfold f_X11_status at h
  refine fhW.blk fhPF fhLL hΓ [(.iload_n 1, 0)] (pc' := 1) (lv' := [(0, .ref 0), (1, .int v1)]) (st' := [.int v1]) (σ' := σ) (by decide +kernel) rfl rfl rfl ?_
  refine fhW.z_lt hΓ (tgt := 21) (show fhbk _ _ (.ifCond .lt (20)) _ = true by decide +kernel) (fun hc => ?_) (fun hc => ?_)
  · rw [if_pos hc] at h
    refine fhW.blk fhPF fhLL hΓ [(.iconst (-1), -1)] (pc' := 22) (lv' := [(0, .ref 0), (1, .int v1)]) (st' := [.int (-1 : Int32)]) (σ' := σ) (by decide +kernel) rfl rfl rfl ?_
    subst h
    exact fhW.iret hΓ (by decide +kernel) hk
  · rw [if_neg hc] at h
    refine fhW.blk fhPF fhLL hΓ [(.iload_n 1, 0), (.bipush 6, 6)] (pc' := 7) (lv' := [(0, .ref 0), (1, .int v1)]) (st' := [.int (6 : Int32), .int v1]) (σ' := σ) (by decide +kernel) rfl rfl rfl ?_
    refine fhW.i_ge hΓ (tgt := 21) (show fhbk _ _ (.if_icmp .ge (14)) _ = true by decide +kernel) (fun hc => ?_) (fun hc => ?_)
    · rw [if_pos hc] at h
      refine fhW.blk fhPF fhLL hΓ [(.iconst (-1), -1)] (pc' := 22) (lv' := [(0, .ref 0), (1, .int v1)]) (st' := [.int (-1 : Int32)]) (σ' := σ) (by decide +kernel) rfl rfl rfl ?_
      subst h
      exact fhW.iret hΓ (by decide +kernel) hk
    · rw [if_neg hc] at h
      refine fhW.blk fhPF fhLL hΓ [(.aload_n 0, 0), (.getfield 93, 0), (.iload_n 1, 0)] (pc' := 15) (lv' := [(0, .ref 0), (1, .int v1)]) (st' := [.int v1, .ref 100]) (σ' := σ) (by decide +kernel) rfl rfl rfl ?_
      refine fhW.callv hΓ mvX2_get ml_11_117 (t := 100) (ci := 2) (av := [.int v1]) (rest := []) (r := (some (.int (fcG σ 100 v1)))) (σ' := σ) (T_X2_get (E := fhEn Γ) (d := fhD Γ - 1) hE (by omega) 100 v1 rfl σ) (by omega) (by decide +kernel) rfl rfl rfl (Nat.le_of_ble_eq_true rfl) rfl ?_
      show fhW fhYF Γ 18 [(0, .ref 0), (1, .int v1)] [.int (fcG σ 100 v1)] σ
      refine fhW.goto hΓ (off := 4) (tgt := 22) (by decide +kernel) ?_
      subst h
      exact fhW.iret hΓ (by decide +kernel) hk
set_option maxRecDepth 100000 in
theorem T_X11_status {E : fhE} {d : Nat} (hE : fhEok fhYF E) (hd : 1 ≤ d) (v1 : Int32)  (σ : fhM) : fhC fhYF E d miX11_status [.ref 0, .int v1] σ (some (.int (f_X11_status v1 σ))) σ := by
  refine fhC.of (y := yX11_status) (cc := cX11_status) (nL := 2) (ret := (some .int)) 11 rfl (by decide +kernel) (Nat.le_of_ble_eq_true rfl) ?_
  intro Γ hΓ hR hD hEn
  subst hD; subst hEn
  exact L_X11_status_E hE hΓ hd v1  σ _ rfl hR
set_option maxRecDepth 100000 in
set_option maxHeartbeats 4000000 in
theorem L_X3_add_E {Γ : fhX} (hE : fhEok fhYF (fhEn Γ)) (hΓ : fhOk fhYF 3 cX3_add 3 none Γ) (hd : 1 ≤ fhD Γ) (v0 : Nat) (v1 : Int32) (v2 : Int32) (hv0 : fhiK v0 = true) (σ : fhM) (o : fhM) (h : f_X3_add v0 v1 v2 σ = o) (hk : (fun o => fhRet Γ none o) o) : fhW fhYF Γ 0 [(0, .ref v0), (1, .int v1), (2, .int v2)] [] σ := by
  unfold f_X3_add at h
  refine fhW.blk fhPF fhLL hΓ [(.aload_n 0, 0), (.getfield 14, 0), (.aload_n 0, 0), (.getfield 20, 0), (.iload_n 1, 0), (.iload_n 2, 0), (.iconst 4, 4), (.ishl, 0), (.ior, 0)] (pc' := 13) (lv' := [(0, .ref v0), (1, .int v1), (2, .int v2)]) (st' := [.int (v1 ||| (v2 <<< ((4 : Int32) &&& 31))), .int (σ.1 v0 1), .ref (v0 + 1)]) (σ' := σ) (by decide +kernel) rfl rfl (by rcases fhiK_or hv0 with rfl | rfl | rfl <;> rfl) ?_
  refine fhW.callv hΓ mvX2_put ml_3_24 (t := (v0 + 1)) (ci := 2) (av := [.int (σ.1 v0 1), .int (v1 ||| (v2 <<< ((4 : Int32) &&& 31)))]) (rest := []) (r := none) (σ' := (fcP σ (v0 + 1) (σ.1 v0 1) (v1 ||| (v2 <<< ((4 : Int32) &&& 31))))) (T_X2_put (E := fhEn Γ) (d := fhD Γ - 1) hE (by omega) (v0 + 1) (σ.1 v0 1) (v1 ||| (v2 <<< ((4 : Int32) &&& 31))) (fhiP_ind (p := fun q => fhiC (q + 1) = true) hv0 rfl rfl) σ) (by omega) (by decide +kernel) rfl (fhiC_g (fhiP_ind (p := fun q => fhiC (q + 1) = true) hv0 rfl rfl)) rfl (Nat.le_of_ble_eq_true rfl) rfl ?_
  show fhW fhYF Γ 16 [(0, .ref v0), (1, .int v1), (2, .int v2)] [] (fcP σ (v0 + 1) (σ.1 v0 1) (v1 ||| (v2 <<< ((4 : Int32) &&& 31))))
  refine fhW.blk fhPF fhLL hΓ [(.aload_n 0, 0), (.aload_n 0, 0), (.getfield 20, 0), (.iconst 1, 1), (.iadd, 0), (.sipush 1600, 1600)] (pc' := 26) (lv' := [(0, .ref v0), (1, .int v1), (2, .int v2)]) (st' := [.int (1600 : Int32), .int (((fcP σ (v0 + 1) (σ.1 v0 1) (v1 ||| (v2 <<< ((4 : Int32) &&& 31)))).1 v0 1) + (1 : Int32)), .ref v0]) (σ' := (fcP σ (v0 + 1) (σ.1 v0 1) (v1 ||| (v2 <<< ((4 : Int32) &&& 31))))) (by decide +kernel) rfl rfl (by rcases fhiK_or hv0 with rfl | rfl | rfl <;> rfl) ?_
  refine fhW.calls hΓ msJ9_min_7cf53 ml_3_28 (av := [.int (((fcP σ (v0 + 1) (σ.1 v0 1) (v1 ||| (v2 <<< ((4 : Int32) &&& 31)))).1 v0 1) + (1 : Int32)), .int (1600 : Int32)]) (rest := [.ref v0]) (r := (some (.int (f_J9_min_7cf53 (((fcP σ (v0 + 1) (σ.1 v0 1) (v1 ||| (v2 <<< ((4 : Int32) &&& 31)))).1 v0 1) + (1 : Int32)) (1600 : Int32) (fcP σ (v0 + 1) (σ.1 v0 1) (v1 ||| (v2 <<< ((4 : Int32) &&& 31)))))))) (σ' := (fcP σ (v0 + 1) (σ.1 v0 1) (v1 ||| (v2 <<< ((4 : Int32) &&& 31))))) (T_J9_min_7cf53 (E := fhEn Γ) (d := fhD Γ - 1) hE (by omega) (((fcP σ (v0 + 1) (σ.1 v0 1) (v1 ||| (v2 <<< ((4 : Int32) &&& 31)))).1 v0 1) + (1 : Int32)) (1600 : Int32) (fcP σ (v0 + 1) (σ.1 v0 1) (v1 ||| (v2 <<< ((4 : Int32) &&& 31))))) (by omega) (by decide +kernel) rfl (Nat.le_of_ble_eq_true rfl) rfl ?_
  show fhW fhYF Γ 29 [(0, .ref v0), (1, .int v1), (2, .int v2)] [.int (f_J9_min_7cf53 (((fcP σ (v0 + 1) (σ.1 v0 1) (v1 ||| (v2 <<< ((4 : Int32) &&& 31)))).1 v0 1) + (1 : Int32)) (1600 : Int32) (fcP σ (v0 + 1) (σ.1 v0 1) (v1 ||| (v2 <<< ((4 : Int32) &&& 31))))), .ref v0] (fcP σ (v0 + 1) (σ.1 v0 1) (v1 ||| (v2 <<< ((4 : Int32) &&& 31))))
  refine fhW.blk fhPF fhLL hΓ [(.putfield 20, 0)] (pc' := 32) (lv' := [(0, .ref v0), (1, .int v1), (2, .int v2)]) (st' := []) (σ' := (fhI (fcP σ (v0 + 1) (σ.1 v0 1) (v1 ||| (v2 <<< ((4 : Int32) &&& 31)))) v0 1 (f_J9_min_7cf53 (((fcP σ (v0 + 1) (σ.1 v0 1) (v1 ||| (v2 <<< ((4 : Int32) &&& 31)))).1 v0 1) + (1 : Int32)) (1600 : Int32) (fcP σ (v0 + 1) (σ.1 v0 1) (v1 ||| (v2 <<< ((4 : Int32) &&& 31))))))) (by decide +kernel) rfl rfl (by rcases fhiK_or hv0 with rfl | rfl | rfl <;> rfl) ?_
  subst h
  exact fhW.vret hΓ (by decide +kernel) hk
set_option maxRecDepth 100000 in
theorem T_X3_add {E : fhE} {d : Nat} (hE : fhEok fhYF E) (hd : 1 ≤ d) (v0 : Nat) (v1 : Int32) (v2 : Int32) (hv0 : fhiK v0 = true) (σ : fhM) : fhC fhYF E d miX3_add [.ref v0, .int v1, .int v2] σ none (f_X3_add v0 v1 v2 σ) := by
  refine fhC.of (y := yX3_add) (cc := cX3_add) (nL := 3) (ret := none) 3 rfl (by decide +kernel) (Nat.le_of_ble_eq_true rfl) ?_
  intro Γ hΓ hR hD hEn
  subst hD; subst hEn
  exact L_X3_add_E hE hΓ hd v0 v1 v2 hv0 σ _ rfl hR
set_option maxRecDepth 100000 in
set_option maxHeartbeats 4000000 in
theorem L_X5_signHere_49 {Γ : fhX} (hE : fhEok fhYF (fhEn Γ)) (hΓ : fhOk fhYF 5 cX5_signHere 1 (some .int) Γ) (hd : 2 ≤ fhD Γ)   (σ : fhM) (o : Int32 × fhM) (h : f_X5_signHere_49 σ = o) (hk : (fun o => fhRet Γ (some (.int o.1)) o.2) o) : fhW fhYF Γ 49 [] [] σ := by
  unfold f_X5_signHere_49 at h
  refine fhW.blk fhPF fhLL hΓ [(.bipush 12, 12)] (pc' := 51) (lv' := []) (st' := [.int (12 : Int32)]) (σ' := σ) (by decide +kernel) rfl rfl rfl ?_
  subst h
  exact fhW.iret hΓ (by decide +kernel) hk
set_option maxRecDepth 100000 in
set_option maxHeartbeats 4000000 in
theorem L_X5_signHere_E {Γ : fhX} (hE : fhEok fhYF (fhEn Γ)) (hΓ : fhOk fhYF 5 cX5_signHere 1 (some .int) Γ) (hd : 2 ≤ fhD Γ)   (σ : fhM) (o : Int32 × fhM) (h : f_X5_signHere σ = o) (hk : (fun o => fhRet Γ (some (.int o.1)) o.2) o) : fhW fhYF Γ 0 [(0, .ref 9)] [] σ := by
  unfold f_X5_signHere at h
  refine fhW.blk fhPF fhLL hΓ [(.aload_n 0, 0), (.getfield 9, 0), (.bipush 60, 60)] (pc' := 6) (lv' := [(0, .ref 9)]) (st' := [.int (60 : Int32), .ref 3]) (σ' := σ) (by decide +kernel) rfl rfl rfl ?_
  refine fhW.callv hΓ mvX8_isSign ml_5_73 (t := 3) (ci := 8) (av := [.int (60 : Int32)]) (rest := []) (r := (some (.int (fhb (f_X8_isSign (60 : Int32) σ))))) (σ' := σ) (T_X8_isSign (E := fhEn Γ) (d := fhD Γ - 1) hE (by omega) (60 : Int32) σ) (by omega) (by decide +kernel) rfl rfl rfl (Nat.le_of_ble_eq_true rfl) rfl ?_
  show fhW fhYF Γ 9 [(0, .ref 9)] [.int (fhb (f_X8_isSign (60 : Int32) σ))] σ
  refine fhW.b_eq hΓ (tgt := 15) (show fhbk _ _ (.ifCond .eq (6)) _ = true by decide +kernel) (fun hc => ?_) (fun hc => ?_)
  · rw [if_neg hc] at h
    refine fhW.blk fhPF fhLL hΓ [(.aload_n 0, 0), (.getfield 9, 0), (.bipush 62, 62)] (pc' := 21) (lv' := [(0, .ref 9)]) (st' := [.int (62 : Int32), .ref 3]) (σ' := σ) (by decide +kernel) rfl rfl rfl ?_
    refine fhW.callv hΓ mvX8_isSign ml_5_73 (t := 3) (ci := 8) (av := [.int (62 : Int32)]) (rest := []) (r := (some (.int (fhb (f_X8_isSign (62 : Int32) σ))))) (σ' := σ) (T_X8_isSign (E := fhEn Γ) (d := fhD Γ - 1) hE (by omega) (62 : Int32) σ) (by omega) (by decide +kernel) rfl rfl rfl (Nat.le_of_ble_eq_true rfl) rfl ?_
    show fhW fhYF Γ 24 [(0, .ref 9)] [.int (fhb (f_X8_isSign (62 : Int32) σ))] σ
    refine fhW.b_eq hΓ (tgt := 30) (show fhbk _ _ (.ifCond .eq (6)) _ = true by decide +kernel) (fun hc => ?_) (fun hc => ?_)
    · rw [if_neg hc] at h
      refine fhW.blk fhPF fhLL hΓ [(.aload_n 0, 0), (.getfield 9, 0), (.bipush 61, 61)] (pc' := 36) (lv' := [(0, .ref 9)]) (st' := [.int (61 : Int32), .ref 3]) (σ' := σ) (by decide +kernel) rfl rfl rfl ?_
      refine fhW.callv hΓ mvX8_isSign ml_5_73 (t := 3) (ci := 8) (av := [.int (61 : Int32)]) (rest := []) (r := (some (.int (fhb (f_X8_isSign (61 : Int32) σ))))) (σ' := σ) (T_X8_isSign (E := fhEn Γ) (d := fhD Γ - 1) hE (by omega) (61 : Int32) σ) (by omega) (by decide +kernel) rfl rfl rfl (Nat.le_of_ble_eq_true rfl) rfl ?_
      show fhW fhYF Γ 39 [(0, .ref 9)] [.int (fhb (f_X8_isSign (61 : Int32) σ))] σ
      refine fhW.b_ne hΓ (tgt := 49) (show fhbk _ _ (.ifCond .ne (10)) _ = true by decide +kernel) (fun hc => ?_) (fun hc => ?_)
      · rw [if_pos hc] at h
        refine fhW.sub (lv' := []) [] rfl ?_
        exact L_X5_signHere_49 hE hΓ hd σ _ h hk
      · rw [if_neg hc] at h
        refine fhW.blk fhPF fhLL hΓ [(.aload_n 0, 0), (.getfield 9, 0)] (pc' := 46) (lv' := [(0, .ref 9)]) (st' := [.ref 3]) (σ' := σ) (by decide +kernel) rfl rfl rfl ?_
        refine fhW.callv hΓ mvX8_failHere ml_5_38 (t := 3) (ci := 8) (av := []) (rest := []) (r := none) (σ' := (f_X8_failHere σ)) (T_X8_failHere (E := fhEn Γ) (d := fhD Γ - 1) hE (by omega) σ) (by omega) (by decide +kernel) rfl rfl rfl (Nat.le_of_ble_eq_true rfl) rfl ?_
        show fhW fhYF Γ 49 [(0, .ref 9)] [] (f_X8_failHere σ)
        obtain ⟨q1, e1, h⟩ := fhlet_elim h
        rw [← e1]
        refine fhW.sub (lv' := []) [] rfl ?_
        exact L_X5_signHere_49 hE hΓ hd q1 _ h hk
    · rw [if_pos hc] at h
      refine fhW.blk fhPF fhLL hΓ [(.bipush 11, 11)] (pc' := 29) (lv' := [(0, .ref 9)]) (st' := [.int (11 : Int32)]) (σ' := σ) (by decide +kernel) rfl rfl rfl ?_
      subst h
      exact fhW.iret hΓ (by decide +kernel) hk
  · rw [if_pos hc] at h
    refine fhW.blk fhPF fhLL hΓ [(.bipush 10, 10)] (pc' := 14) (lv' := [(0, .ref 9)]) (st' := [.int (10 : Int32)]) (σ' := σ) (by decide +kernel) rfl rfl rfl ?_
    subst h
    exact fhW.iret hΓ (by decide +kernel) hk
set_option maxRecDepth 100000 in
theorem T_X5_signHere {E : fhE} {d : Nat} (hE : fhEok fhYF E) (hd : 2 ≤ d)   (σ : fhM) : fhC fhYF E d miX5_signHere [.ref 9] σ (some (.int (f_X5_signHere σ).1)) (f_X5_signHere σ).2 := by
  refine fhC.of (y := yX5_signHere) (cc := cX5_signHere) (nL := 1) (ret := (some .int)) 5 rfl (by decide +kernel) (Nat.le_of_ble_eq_true rfl) ?_
  intro Γ hΓ hR hD hEn
  subst hD; subst hEn
  exact L_X5_signHere_E hE hΓ hd   σ _ rfl hR
set_option maxRecDepth 100000 in
set_option maxHeartbeats 4000000 in
theorem L_X5_goDeeper_E {Γ : fhX} (hE : fhEok fhYF (fhEn Γ)) (hΓ : fhOk fhYF 5 cX5_goDeeper 1 (some .boolean) Γ) (hd : 2 ≤ fhD Γ)   (σ : fhM) (o : Bool × fhM) (h : f_X5_goDeeper σ = o) (hk : (fun o => fhRet Γ (some (.int (fhb o.1))) o.2) o) : fhW fhYF Γ 0 [(0, .ref 9)] [] σ := by
  unfold f_X5_goDeeper at h
  refine fhW.blk fhPF fhLL hΓ [(.aload_n 0, 0), (.getfield 53, 0), (.bipush 6, 6)] (pc' := 6) (lv' := [(0, .ref 9)]) (st' := [.int (6 : Int32), .int (σ.1 9 4)]) (σ' := σ) (by decide +kernel) rfl rfl rfl ?_
  refine fhW.i_lt hΓ (tgt := 26) (show fhbk _ _ (.if_icmp .lt (20)) _ = true by decide +kernel) (fun hc => ?_) (fun hc => ?_)
  · rw [if_pos hc] at h
    refine fhW.blk fhPF fhLL hΓ [(.aload_n 0, 0), (.dup, 0), (.getfield 53, 0), (.iconst 1, 1), (.iadd, 0), (.putfield 53, 0), (.aload_n 0, 0), (.getfield 9, 0)] (pc' := 40) (lv' := [(0, .ref 9)]) (st' := [.ref 3]) (σ' := (fhI σ 9 4 ((σ.1 9 4) + (1 : Int32)))) (by decide +kernel) rfl rfl rfl ?_
    refine fhW.callv hΓ mvX8_advance ml_5_29 (t := 3) (ci := 8) (av := []) (rest := []) (r := none) (σ' := (f_X8_advance (fhI σ 9 4 ((σ.1 9 4) + (1 : Int32))))) (T_X8_advance (E := fhEn Γ) (d := fhD Γ - 1) hE (by omega) (fhI σ 9 4 ((σ.1 9 4) + (1 : Int32)))) (by omega) (by decide +kernel) rfl rfl rfl (Nat.le_of_ble_eq_true rfl) rfl ?_
    show fhW fhYF Γ 43 [(0, .ref 9)] [] (f_X8_advance (fhI σ 9 4 ((σ.1 9 4) + (1 : Int32))))
    obtain ⟨q1, e1, h⟩ := fhlet_elim h
    rw [← e1]
    refine fhW.blk fhPF fhLL hΓ [(.iconst 1, 1)] (pc' := 44) (lv' := [(0, .ref 9)]) (st' := [.int (1 : Int32)]) (σ' := q1) (by decide +kernel) rfl rfl rfl ?_
    subst h
    exact fhW.zret (v := true) hΓ (by decide +kernel) hk
  · rw [if_neg hc] at h
    refine fhW.blk fhPF fhLL hΓ [(.aload_n 0, 0), (.getfield 9, 0), (.iconst 4, 4), (.aload_n 0, 0), (.getfield 9, 0), (.getfield 87, 0)] (pc' := 21) (lv' := [(0, .ref 9)]) (st' := [.int (σ.1 3 8), .int (4 : Int32), .ref 3]) (σ' := σ) (by decide +kernel) rfl rfl rfl ?_
    refine fhW.callv hΓ mvX8_fail ml_5_90 (t := 3) (ci := 8) (av := [.int (4 : Int32), .int (σ.1 3 8)]) (rest := []) (r := none) (σ' := (f_X8_fail (4 : Int32) (σ.1 3 8) σ)) (T_X8_fail (E := fhEn Γ) (d := fhD Γ - 1) hE (by omega) (4 : Int32) (σ.1 3 8) σ) (by omega) (by decide +kernel) rfl rfl rfl (Nat.le_of_ble_eq_true rfl) rfl ?_
    show fhW fhYF Γ 24 [(0, .ref 9)] [] (f_X8_fail (4 : Int32) (σ.1 3 8) σ)
    obtain ⟨q2, e2, h⟩ := fhlet_elim h
    rw [← e2]
    refine fhW.blk fhPF fhLL hΓ [(.iconst 0, 0)] (pc' := 25) (lv' := [(0, .ref 9)]) (st' := [.int (0 : Int32)]) (σ' := q2) (by decide +kernel) rfl rfl rfl ?_
    subst h
    exact fhW.zret (v := false) hΓ (by decide +kernel) hk
set_option maxRecDepth 100000 in
theorem T_X5_goDeeper {E : fhE} {d : Nat} (hE : fhEok fhYF E) (hd : 2 ≤ d)   (σ : fhM) : fhC fhYF E d miX5_goDeeper [.ref 9] σ (some (.int (fhb (f_X5_goDeeper σ).1))) (f_X5_goDeeper σ).2 := by
  refine fhC.of (y := yX5_goDeeper) (cc := cX5_goDeeper) (nL := 1) (ret := (some .boolean)) 5 rfl (by decide +kernel) (Nat.le_of_ble_eq_true rfl) ?_
  intro Γ hΓ hR hD hEn
  subst hD; subst hEn
  exact L_X5_goDeeper_E hE hΓ hd   σ _ rfl hR
set_option maxRecDepth 100000 in
set_option maxHeartbeats 4000000 in
theorem L_X5_isLookingWord_31 {Γ : fhX} (hE : fhEok fhYF (fhEn Γ)) (hΓ : fhOk fhYF 5 cX5_isLookingWord 1 (some .boolean) Γ) (hd : 1 ≤ fhD Γ)   (σ : fhM) (o : Bool) (h : f_X5_isLookingWord_31 σ = o) (hk : (fun o => fhRet Γ (some (.int (fhb o))) σ) o) : fhW fhYF Γ 31 [] [] σ := by
  unfold f_X5_isLookingWord_31 at h
  refine fhW.blk fhPF fhLL hΓ [(.iconst 1, 1)] (pc' := 32) (lv' := []) (st' := [.int (1 : Int32)]) (σ' := σ) (by decide +kernel) rfl rfl rfl ?_
  refine fhW.goto hΓ (off := 4) (tgt := 36) (by decide +kernel) ?_
  subst h
  exact fhW.zret (v := true) hΓ (by decide +kernel) hk
set_option maxRecDepth 100000 in
set_option maxHeartbeats 4000000 in
theorem L_X5_isLookingWord_E {Γ : fhX} (hE : fhEok fhYF (fhEn Γ)) (hΓ : fhOk fhYF 5 cX5_isLookingWord 1 (some .boolean) Γ) (hd : 1 ≤ fhD Γ)   (σ : fhM) (o : Bool) (h : f_X5_isLookingWord σ = o) (hk : (fun o => fhRet Γ (some (.int (fhb o))) σ) o) : fhW fhYF Γ 0 [(0, .ref 9)] [] σ := by
  unfold f_X5_isLookingWord at h
  refine fhW.blk fhPF fhLL hΓ [(.aload_n 0, 0), (.getfield 49, 0)] (pc' := 4) (lv' := [(0, .ref 9)]) (st' := [.int (σ.1 9 3)]) (σ' := σ) (by decide +kernel) rfl rfl rfl ?_
  refine fhW.z_eq hΓ (tgt := 37) (show fhbk _ _ (.ifCond .eq (33)) _ = true by decide +kernel) (fun hc => ?_) (fun hc => ?_)
  · rw [if_pos hc] at h
    refine fhW.blk fhPF fhLL hΓ [(.aload_n 0, 0), (.getfield 9, 0), (.bipush 12, 12)] (pc' := 43) (lv' := [(0, .ref 9)]) (st' := [.int (12 : Int32), .ref 3]) (σ' := σ) (by decide +kernel) rfl rfl rfl ?_
    refine fhW.callv hΓ mvX8_isWord ml_5_60 (t := 3) (ci := 8) (av := [.int (12 : Int32)]) (rest := []) (r := (some (.int (fhb (f_X8_isWord (12 : Int32) σ))))) (σ' := σ) (T_X8_isWord (E := fhEn Γ) (d := fhD Γ - 1) hE (by omega) (12 : Int32) σ) (by omega) (by decide +kernel) rfl rfl rfl (Nat.le_of_ble_eq_true rfl) rfl ?_
    show fhW fhYF Γ 46 [(0, .ref 9)] [.int (fhb (f_X8_isWord (12 : Int32) σ))] σ
    subst h
    exact fhW.zret (v := (f_X8_isWord (12 : Int32) σ)) hΓ (by decide +kernel) hk
  · rw [if_neg hc] at h
    refine fhW.blk fhPF fhLL hΓ [(.aload_n 0, 0), (.getfield 9, 0), (.bipush 18, 18)] (pc' := 13) (lv' := [(0, .ref 9)]) (st' := [.int (18 : Int32), .ref 3]) (σ' := σ) (by decide +kernel) rfl rfl rfl ?_
    refine fhW.callv hΓ mvX8_isWord ml_5_60 (t := 3) (ci := 8) (av := [.int (18 : Int32)]) (rest := []) (r := (some (.int (fhb (f_X8_isWord (18 : Int32) σ))))) (σ' := σ) (T_X8_isWord (E := fhEn Γ) (d := fhD Γ - 1) hE (by omega) (18 : Int32) σ) (by omega) (by decide +kernel) rfl rfl rfl (Nat.le_of_ble_eq_true rfl) rfl ?_
    show fhW fhYF Γ 16 [(0, .ref 9)] [.int (fhb (f_X8_isWord (18 : Int32) σ))] σ
    refine fhW.b_ne hΓ (tgt := 31) (show fhbk _ _ (.ifCond .ne (15)) _ = true by decide +kernel) (fun hc => ?_) (fun hc => ?_)
    · rw [if_pos hc] at h
      refine fhW.sub (lv' := []) [] rfl ?_
      exact L_X5_isLookingWord_31 hE hΓ hd σ _ h hk
    · rw [if_neg hc] at h
      refine fhW.blk fhPF fhLL hΓ [(.aload_n 0, 0), (.getfield 9, 0), (.bipush 19, 19)] (pc' := 25) (lv' := [(0, .ref 9)]) (st' := [.int (19 : Int32), .ref 3]) (σ' := σ) (by decide +kernel) rfl rfl rfl ?_
      refine fhW.callv hΓ mvX8_isWord ml_5_60 (t := 3) (ci := 8) (av := [.int (19 : Int32)]) (rest := []) (r := (some (.int (fhb (f_X8_isWord (19 : Int32) σ))))) (σ' := σ) (T_X8_isWord (E := fhEn Γ) (d := fhD Γ - 1) hE (by omega) (19 : Int32) σ) (by omega) (by decide +kernel) rfl rfl rfl (Nat.le_of_ble_eq_true rfl) rfl ?_
      show fhW fhYF Γ 28 [(0, .ref 9)] [.int (fhb (f_X8_isWord (19 : Int32) σ))] σ
      refine fhW.b_eq hΓ (tgt := 35) (show fhbk _ _ (.ifCond .eq (7)) _ = true by decide +kernel) (fun hc => ?_) (fun hc => ?_)
      · rw [if_neg hc] at h
        refine fhW.blk fhPF fhLL hΓ [(.iconst 0, 0)] (pc' := 36) (lv' := [(0, .ref 9)]) (st' := [.int (0 : Int32)]) (σ' := σ) (by decide +kernel) rfl rfl rfl ?_
        subst h
        exact fhW.zret (v := false) hΓ (by decide +kernel) hk
      · rw [if_pos hc] at h
        refine fhW.sub (lv' := []) [] rfl ?_
        exact L_X5_isLookingWord_31 hE hΓ hd σ _ h hk
set_option maxRecDepth 100000 in
theorem T_X5_isLookingWord {E : fhE} {d : Nat} (hE : fhEok fhYF E) (hd : 1 ≤ d)   (σ : fhM) : fhC fhYF E d miX5_isLookingWord [.ref 9] σ (some (.int (fhb (f_X5_isLookingWord σ)))) σ := by
  refine fhC.of (y := yX5_isLookingWord) (cc := cX5_isLookingWord) (nL := 1) (ret := (some .boolean)) 5 rfl (by decide +kernel) (Nat.le_of_ble_eq_true rfl) ?_
  intro Γ hΓ hR hD hEn
  subst hD; subst hEn
  exact L_X5_isLookingWord_E hE hΓ hd   σ _ rfl hR
set_option maxRecDepth 100000 in
set_option maxHeartbeats 4000000 in
theorem L_X8_lettersHere_E {Γ : fhX} (hE : fhEok fhYF (fhEn Γ)) (hΓ : fhOk fhYF 8 cX8_lettersHere 1 (some .int) Γ) (hd : 0 ≤ fhD Γ)   (σ : fhM) (o : Int32) (h : f_X8_lettersHere σ = o) (hk : (fun o => fhRet Γ (some (.int o)) σ) o) : fhW fhYF Γ 0 [(0, .ref 3)] [] σ := by
  unfold f_X8_lettersHere at h
  refine fhW.blk fhPF fhLL hΓ [(.aload_n 0, 0), (.getfield 75, 0), (.iconst 1, 1)] (pc' := 5) (lv' := [(0, .ref 3)]) (st' := [.int (1 : Int32), .int (σ.1 3 4)]) (σ' := σ) (by decide +kernel) rfl rfl rfl ?_
  refine fhW.i_ne hΓ (tgt := 15) (show fhbk _ _ (.if_icmp .ne (10)) _ = true by decide +kernel) (fun hc => ?_) (fun hc => ?_)
  · rw [if_neg hc] at h
    refine fhW.blk fhPF fhLL hΓ [(.iconst 0, 0)] (pc' := 16) (lv' := [(0, .ref 3)]) (st' := [.int (0 : Int32)]) (σ' := σ) (by decide +kernel) rfl rfl rfl ?_
    subst h
    exact fhW.iret hΓ (by decide +kernel) hk
  · rw [if_pos hc] at h
    refine fhW.blk fhPF fhLL hΓ [(.aload_n 0, 0), (.getfield 87, 0)] (pc' := 12) (lv' := [(0, .ref 3)]) (st' := [.int (σ.1 3 6)]) (σ' := σ) (by decide +kernel) rfl rfl rfl ?_
    refine fhW.goto hΓ (off := 4) (tgt := 16) (by decide +kernel) ?_
    subst h
    exact fhW.iret hΓ (by decide +kernel) hk
set_option maxRecDepth 100000 in
theorem T_X8_lettersHere {E : fhE} {d : Nat} (hE : fhEok fhYF E) (hd : 0 ≤ d)   (σ : fhM) : fhC fhYF E d miX8_lettersHere [.ref 3] σ (some (.int (f_X8_lettersHere σ))) σ := by
  refine fhC.of (y := yX8_lettersHere) (cc := cX8_lettersHere) (nL := 1) (ret := (some .int)) 8 rfl (by decide +kernel) (Nat.le_of_ble_eq_true rfl) ?_
  intro Γ hΓ hR hD hEn
  subst hD; subst hEn
  exact L_X8_lettersHere_E hE hΓ hd   σ _ rfl hR
set_option maxRecDepth 100000 in
set_option maxHeartbeats 4000000 in
theorem L_X5_leaf_83 {Γ : fhX} (hE : fhEok fhYF (fhEn Γ)) (hΓ : fhOk fhYF 5 cX5_leaf 3 none Γ) (hd : 2 ≤ fhD Γ) (v2 : Int32)  (σ : fhM) (o : fhM) (h : f_X5_leaf_83 v2 σ = some o) (hk : (fun o => fhRet Γ none o) o) : fhW fhYF Γ 83 [(0, .ref 9), (2, .int v2)] [] σ := by
  unfold f_X5_leaf_83 at h
  refine fhW.blk fhPF fhLL hΓ [(.iload_n 2, 0), (.iconst (-1), -1)] (pc' := 85) (lv' := [(0, .ref 9), (2, .int v2)]) (st' := [.int (-1 : Int32), .int v2]) (σ' := σ) (by decide +kernel) rfl rfl rfl ?_
  refine fhW.i_ne hΓ (tgt := 96) (show fhbk _ _ (.if_icmp .ne (11)) _ = true by decide +kernel) (fun hc => ?_) (fun hc => ?_)
  · rw [if_neg hc] at h
    refine fhW.blk fhPF fhLL hΓ [(.aload_n 0, 0), (.getfield 15, 0), (.iconst 1, 1), (.iload_n 2, 0)] (pc' := 102) (lv' := [(0, .ref 9), (2, .int v2)]) (st' := [.int v2, .int (1 : Int32), .ref (σ.2.2 9 1)]) (σ' := σ) (by decide +kernel) rfl rfl rfl ?_
    obtain ⟨hy1, h⟩ := fhif h
    refine fhW.callv hΓ mvX3_add ml_5_64 (t := (σ.2.2 9 1)) (ci := 3) (av := [.int (1 : Int32), .int v2]) (rest := []) (r := none) (σ' := (f_X3_add (σ.2.2 9 1) (1 : Int32) v2 σ)) (T_X3_add (E := fhEn Γ) (d := fhD Γ - 1) hE (by omega) (σ.2.2 9 1) (1 : Int32) v2 hy1 σ) (by omega) (by decide +kernel) rfl (fhiK_g hy1) rfl (Nat.le_of_ble_eq_true rfl) rfl ?_
    show fhW fhYF Γ 105 [(0, .ref 9), (2, .int v2)] [] (f_X3_add (σ.2.2 9 1) (1 : Int32) v2 σ)
    obtain ⟨q2, e1, h⟩ := fhlet_elim h
    rw [← e1]
    refine fhW.blk fhPF fhLL hΓ [(.aload_n 0, 0), (.getfield 9, 0)] (pc' := 109) (lv' := [(0, .ref 9), (2, .int v2)]) (st' := [.ref 3]) (σ' := q2) (by decide +kernel) rfl rfl rfl ?_
    refine fhW.callv hΓ mvX8_advance ml_5_29 (t := 3) (ci := 8) (av := []) (rest := []) (r := none) (σ' := (f_X8_advance q2)) (T_X8_advance (E := fhEn Γ) (d := fhD Γ - 1) hE (by omega) q2) (by omega) (by decide +kernel) rfl rfl rfl (Nat.le_of_ble_eq_true rfl) rfl ?_
    show fhW fhYF Γ 112 [(0, .ref 9), (2, .int v2)] [] (f_X8_advance q2)
    obtain ⟨q3, e2, h⟩ := fhlet_elim h
    rw [← e2]
    have e9 := Option.some.inj h
    subst e9
    exact fhW.vret hΓ (by decide +kernel) hk
  · rw [if_pos hc] at h
    refine fhW.blk fhPF fhLL hΓ [(.aload_n 0, 0), (.getfield 9, 0)] (pc' := 92) (lv' := [(0, .ref 9), (2, .int v2)]) (st' := [.ref 3]) (σ' := σ) (by decide +kernel) rfl rfl rfl ?_
    refine fhW.callv hΓ mvX8_failHere ml_5_38 (t := 3) (ci := 8) (av := []) (rest := []) (r := none) (σ' := (f_X8_failHere σ)) (T_X8_failHere (E := fhEn Γ) (d := fhD Γ - 1) hE (by omega) σ) (by omega) (by decide +kernel) rfl rfl rfl (Nat.le_of_ble_eq_true rfl) rfl ?_
    show fhW fhYF Γ 95 [(0, .ref 9), (2, .int v2)] [] (f_X8_failHere σ)
    obtain ⟨q4, e3, h⟩ := fhlet_elim h
    rw [← e3]
    have e9 := Option.some.inj h
    subst e9
    exact fhW.vret hΓ (by decide +kernel) hk
set_option maxRecDepth 100000 in
set_option maxHeartbeats 4000000 in
theorem L_X5_leaf_61 {Γ : fhX} (hE : fhEok fhYF (fhEn Γ)) (hΓ : fhOk fhYF 5 cX5_leaf 3 none Γ) (hd : 2 ≤ fhD Γ) (v2 : Int32)  (σ : fhM) (o : fhM) (h : f_X5_leaf_61 v2 σ = some o) (hk : (fun o => fhRet Γ none o) o) : fhW fhYF Γ 61 [(0, .ref 9), (2, .int v2)] [] σ := by
  unfold f_X5_leaf_61 at h
  refine fhW.blk fhPF fhLL hΓ [(.aload_n 0, 0), (.getfield 45, 0)] (pc' := 65) (lv' := [(0, .ref 9), (2, .int v2)]) (st' := [fhnv (σ.2.2 9 2)]) (σ' := σ) (by decide +kernel) rfl rfl rfl ?_
  refine fhW.nullN hΓ (tgt := 83) (show fhbk _ _ (.ifnull (18)) _ = true by decide +kernel) (fun hc => ?_) (fun hc => ?_)
  · rw [if_pos hc] at h
    refine fhW.sub (lv' := [(0, .ref 9), (2, .int v2)]) [0, 1] rfl ?_
    exact L_X5_leaf_83 hE hΓ hd v2 σ _ h hk
  · rw [if_neg hc] at h
    refine fhW.blk fhPF fhLL hΓ [(.aload_n 0, 0), (.getfield 45, 0), (.aload_n 0, 0), (.getfield 9, 0)] (pc' := 76) (lv' := [(0, .ref 9), (2, .int v2)]) (st' := [.ref 3, fhnv (σ.2.2 9 2)]) (σ' := σ) (by decide +kernel) rfl rfl rfl ?_
    refine fhW.callv hΓ mvX8_lettersHere ml_5_118 (t := 3) (ci := 8) (av := []) (rest := [fhnv (σ.2.2 9 2)]) (r := (some (.int (f_X8_lettersHere σ)))) (σ' := σ) (T_X8_lettersHere (E := fhEn Γ) (d := fhD Γ - 1) hE (by omega) σ) (by omega) (by decide +kernel) rfl rfl rfl (Nat.le_of_ble_eq_true rfl) rfl ?_
    show fhW fhYF Γ 79 [(0, .ref 9), (2, .int v2)] [.int (f_X8_lettersHere σ), fhnv (σ.2.2 9 2)] σ
    obtain ⟨hy2, h⟩ := fhif h
    obtain ⟨q1, hb1, h⟩ := Option.bind_eq_some_iff.mp h
    refine fhW.callv hΓ mvX7_guestNamed ml_5_121 (t := (σ.2.2 9 2)) (ci := 7) (av := [.int (f_X8_lettersHere σ)]) (rest := []) (r := (some (.int q1))) (σ' := σ) (T_X7_guestNamed (E := fhEn Γ) (d := fhD Γ - 1) hE (by omega) (σ.2.2 9 2) (f_X8_lettersHere σ) hy2 σ hb1) (by omega) (by decide +kernel) rfl (fhiP_g hy2) rfl (Nat.le_of_ble_eq_true rfl) rfl ?_
    show fhW fhYF Γ 82 [(0, .ref 9), (2, .int v2)] [.int q1] σ
    refine fhW.blk fhPF fhLL hΓ [(.istore_n 2, 0)] (pc' := 83) (lv' := [(2, .int q1), (0, .ref 9)]) (st' := []) (σ' := σ) (by decide +kernel) rfl rfl rfl ?_
    refine fhW.sub (lv' := [(0, .ref 9), (2, .int q1)]) [1, 0] rfl ?_
    exact L_X5_leaf_83 hE hΓ hd q1 σ _ h hk
set_option maxRecDepth 100000 in
set_option maxHeartbeats 4000000 in
theorem L_X5_leaf_37 {Γ : fhX} (hE : fhEok fhYF (fhEn Γ)) (hΓ : fhOk fhYF 5 cX5_leaf 3 none Γ) (hd : 2 ≤ fhD Γ) (s0 : Int32)  (σ : fhM) (o : fhM) (h : f_X5_leaf_37 s0 σ = some o) (hk : (fun o => fhRet Γ none o) o) : fhW fhYF Γ 37 [(0, .ref 9)] [.int s0] σ := by
  unfold f_X5_leaf_37 at h
  refine fhW.blk fhPF fhLL hΓ [(.istore_n 2, 0)] (pc' := 38) (lv' := [(2, .int s0), (0, .ref 9)]) (st' := []) (σ' := σ) (by decide +kernel) rfl rfl rfl ?_
  refine fhW.goto hΓ (off := 45) (tgt := 83) (by decide +kernel) ?_
  refine fhW.sub (lv' := [(0, .ref 9), (2, .int s0)]) [1, 0] rfl ?_
  exact L_X5_leaf_83 hE hΓ hd s0 σ _ h hk
set_option maxRecDepth 100000 in
set_option maxHeartbeats 4000000 in
theorem L_X5_leaf_36 {Γ : fhX} (hE : fhEok fhYF (fhEn Γ)) (hΓ : fhOk fhYF 5 cX5_leaf 3 none Γ) (hd : 2 ≤ fhD Γ)   (σ : fhM) (o : fhM) (h : f_X5_leaf_36 σ = some o) (hk : (fun o => fhRet Γ none o) o) : fhW fhYF Γ 36 [(0, .ref 9)] [] σ := by
  unfold f_X5_leaf_36 at h
  refine fhW.blk fhPF fhLL hΓ [(.iconst (-1), -1)] (pc' := 37) (lv' := [(0, .ref 9)]) (st' := [.int (-1 : Int32)]) (σ' := σ) (by decide +kernel) rfl rfl rfl ?_
  refine fhW.sub (lv' := [(0, .ref 9)]) [0] rfl ?_
  exact L_X5_leaf_37 hE hΓ hd (-1 : Int32) σ _ h hk
set_option maxRecDepth 100000 in
set_option maxHeartbeats 4000000 in
theorem L_X5_leaf_E {Γ : fhX} (hE : fhEok fhYF (fhEn Γ)) (hΓ : fhOk fhYF 5 cX5_leaf 3 none Γ) (hd : 2 ≤ fhD Γ)   (σ : fhM) (o : fhM) (h : f_X5_leaf σ = some o) (hk : (fun o => fhRet Γ none o) o) : fhW fhYF Γ 0 [(0, .ref 9)] [] σ := by
  unfold f_X5_leaf at h
  refine fhW.blk fhPF fhLL hΓ [(.aload_n 0, 0), (.getfield 9, 0)] (pc' := 4) (lv' := [(0, .ref 9)]) (st' := [.ref 3]) (σ' := σ) (by decide +kernel) rfl rfl rfl ?_
  refine fhW.callv hΓ mvX8_wordHere ml_5_23 (t := 3) (ci := 8) (av := []) (rest := []) (r := (some (.int (f_X8_wordHere σ)))) (σ' := σ) (T_X8_wordHere (E := fhEn Γ) (d := fhD Γ - 1) hE (by omega) σ) (by omega) (by decide +kernel) rfl rfl rfl (Nat.le_of_ble_eq_true rfl) rfl ?_
  show fhW fhYF Γ 7 [(0, .ref 9)] [.int (f_X8_wordHere σ)] σ
  refine fhW.blk fhPF fhLL hΓ [(.istore_n 1, 0), (.iconst (-1), -1), (.istore_n 2, 0), (.aload_n 0, 0), (.getfield 49, 0)] (pc' := 14) (lv' := [(2, .int (-1 : Int32)), (1, .int (f_X8_wordHere σ)), (0, .ref 9)]) (st' := [.int (σ.1 9 3)]) (σ' := σ) (by decide +kernel) rfl rfl rfl ?_
  refine fhW.z_eq hΓ (tgt := 41) (show fhbk _ _ (.ifCond .eq (27)) _ = true by decide +kernel) (fun hc => ?_) (fun hc => ?_)
  · rw [if_pos hc] at h
    refine fhW.blk fhPF fhLL hΓ [(.iload_n 1, 0), (.bipush 8, 8)] (pc' := 44) (lv' := [(2, .int (-1 : Int32)), (1, .int (f_X8_wordHere σ)), (0, .ref 9)]) (st' := [.int (8 : Int32), .int (f_X8_wordHere σ)]) (σ' := σ) (by decide +kernel) rfl rfl rfl ?_
    refine fhW.i_lt hΓ (tgt := 61) (show fhbk _ _ (.if_icmp .lt (17)) _ = true by decide +kernel) (fun hc => ?_) (fun hc => ?_)
    · rw [if_pos hc] at h
      refine fhW.sub (lv' := [(0, .ref 9), (2, .int (-1 : Int32))]) [2, 0] rfl ?_
      exact L_X5_leaf_61 hE hΓ hd (-1 : Int32) σ _ h hk
    · rw [if_neg hc] at h
      refine fhW.blk fhPF fhLL hΓ [(.iload_n 1, 0), (.bipush 11, 11)] (pc' := 50) (lv' := [(2, .int (-1 : Int32)), (1, .int (f_X8_wordHere σ)), (0, .ref 9)]) (st' := [.int (11 : Int32), .int (f_X8_wordHere σ)]) (σ' := σ) (by decide +kernel) rfl rfl rfl ?_
      refine fhW.i_gt hΓ (tgt := 61) (show fhbk _ _ (.if_icmp .gt (11)) _ = true by decide +kernel) (fun hc => ?_) (fun hc => ?_)
      · rw [if_pos hc] at h
        refine fhW.sub (lv' := [(0, .ref 9), (2, .int (-1 : Int32))]) [2, 0] rfl ?_
        exact L_X5_leaf_61 hE hΓ hd (-1 : Int32) σ _ h hk
      · rw [if_neg hc] at h
        refine fhW.blk fhPF fhLL hΓ [(.bipush (-3), -3), (.iload_n 1, 0), (.iadd, 0), (.istore_n 2, 0)] (pc' := 58) (lv' := [(2, .int ((-3 : Int32) + (f_X8_wordHere σ))), (1, .int (f_X8_wordHere σ)), (0, .ref 9)]) (st' := []) (σ' := σ) (by decide +kernel) rfl rfl rfl ?_
        refine fhW.goto hΓ (off := 25) (tgt := 83) (by decide +kernel) ?_
        refine fhW.sub (lv' := [(0, .ref 9), (2, .int ((-3 : Int32) + (f_X8_wordHere σ)))]) [2, 0] rfl ?_
        exact L_X5_leaf_83 hE hΓ hd ((-3 : Int32) + (f_X8_wordHere σ)) σ _ h hk
  · rw [if_neg hc] at h
    refine fhW.blk fhPF fhLL hΓ [(.iload_n 1, 0), (.bipush 13, 13)] (pc' := 20) (lv' := [(2, .int (-1 : Int32)), (1, .int (f_X8_wordHere σ)), (0, .ref 9)]) (st' := [.int (13 : Int32), .int (f_X8_wordHere σ)]) (σ' := σ) (by decide +kernel) rfl rfl rfl ?_
    refine fhW.i_lt hΓ (tgt := 36) (show fhbk _ _ (.if_icmp .lt (16)) _ = true by decide +kernel) (fun hc => ?_) (fun hc => ?_)
    · rw [if_pos hc] at h
      refine fhW.sub (lv' := [(0, .ref 9)]) [2] rfl ?_
      exact L_X5_leaf_36 hE hΓ hd σ _ h hk
    · rw [if_neg hc] at h
      refine fhW.blk fhPF fhLL hΓ [(.iload_n 1, 0), (.bipush 17, 17)] (pc' := 26) (lv' := [(2, .int (-1 : Int32)), (1, .int (f_X8_wordHere σ)), (0, .ref 9)]) (st' := [.int (17 : Int32), .int (f_X8_wordHere σ)]) (σ' := σ) (by decide +kernel) rfl rfl rfl ?_
      refine fhW.i_gt hΓ (tgt := 36) (show fhbk _ _ (.if_icmp .gt (10)) _ = true by decide +kernel) (fun hc => ?_) (fun hc => ?_)
      · rw [if_pos hc] at h
        refine fhW.sub (lv' := [(0, .ref 9)]) [2] rfl ?_
        exact L_X5_leaf_36 hE hΓ hd σ _ h hk
      · rw [if_neg hc] at h
        refine fhW.blk fhPF fhLL hΓ [(.bipush (-3), -3), (.iload_n 1, 0), (.iadd, 0)] (pc' := 33) (lv' := [(2, .int (-1 : Int32)), (1, .int (f_X8_wordHere σ)), (0, .ref 9)]) (st' := [.int ((-3 : Int32) + (f_X8_wordHere σ))]) (σ' := σ) (by decide +kernel) rfl rfl rfl ?_
        refine fhW.goto hΓ (off := 4) (tgt := 37) (by decide +kernel) ?_
        refine fhW.sub (lv' := [(0, .ref 9)]) [2] rfl ?_
        exact L_X5_leaf_37 hE hΓ hd ((-3 : Int32) + (f_X8_wordHere σ)) σ _ h hk
set_option maxRecDepth 100000 in
theorem T_X5_leaf {E : fhE} {d : Nat} (hE : fhEok fhYF E) (hd : 2 ≤ d)   (σ : fhM) {o : fhM} (h : f_X5_leaf σ = some o) : fhC fhYF E d miX5_leaf [.ref 9] σ none o := by
  refine fhC.of (y := yX5_leaf) (cc := cX5_leaf) (nL := 3) (ret := none) 5 rfl (by decide +kernel) (Nat.le_of_ble_eq_true rfl) ?_
  intro Γ hΓ hR hD hEn
  subst hD; subst hEn
  exact L_X5_leaf_E hE hΓ hd   σ _ h hR
set_option maxRecDepth 100000 in
set_option maxHeartbeats 4000000 in
theorem L_X8_isNumber_E {Γ : fhX} (hE : fhEok fhYF (fhEn Γ)) (hΓ : fhOk fhYF 8 cX8_isNumber 1 (some .boolean) Γ) (hd : 0 ≤ fhD Γ)   (σ : fhM) (o : Bool) (h : f_X8_isNumber σ = o) (hk : (fun o => fhRet Γ (some (.int (fhb o))) σ) o) : fhW fhYF Γ 0 [(0, .ref 3)] [] σ := by
  unfold f_X8_isNumber at h
  refine fhW.blk fhPF fhLL hΓ [(.aload_n 0, 0), (.getfield 75, 0), (.iconst 2, 2)] (pc' := 5) (lv' := [(0, .ref 3)]) (st' := [.int (2 : Int32), .int (σ.1 3 4)]) (σ' := σ) (by decide +kernel) rfl rfl rfl ?_
  refine fhW.i_ne hΓ (tgt := 12) (show fhbk _ _ (.if_icmp .ne (7)) _ = true by decide +kernel) (fun hc => ?_) (fun hc => ?_)
  · rw [if_neg hc] at h
    refine fhW.blk fhPF fhLL hΓ [(.iconst 0, 0)] (pc' := 13) (lv' := [(0, .ref 3)]) (st' := [.int (0 : Int32)]) (σ' := σ) (by decide +kernel) rfl rfl rfl ?_
    subst h
    exact fhW.zret (v := false) hΓ (by decide +kernel) hk
  · rw [if_pos hc] at h
    refine fhW.blk fhPF fhLL hΓ [(.iconst 1, 1)] (pc' := 9) (lv' := [(0, .ref 3)]) (st' := [.int (1 : Int32)]) (σ' := σ) (by decide +kernel) rfl rfl rfl ?_
    refine fhW.goto hΓ (off := 4) (tgt := 13) (by decide +kernel) ?_
    subst h
    exact fhW.zret (v := true) hΓ (by decide +kernel) hk
set_option maxRecDepth 100000 in
theorem T_X8_isNumber {E : fhE} {d : Nat} (hE : fhEok fhYF E) (hd : 0 ≤ d)   (σ : fhM) : fhC fhYF E d miX8_isNumber [.ref 3] σ (some (.int (fhb (f_X8_isNumber σ)))) σ := by
  refine fhC.of (y := yX8_isNumber) (cc := cX8_isNumber) (nL := 1) (ret := (some .boolean)) 8 rfl (by decide +kernel) (Nat.le_of_ble_eq_true rfl) ?_
  intro Γ hΓ hR hD hEn
  subst hD; subst hEn
  exact L_X8_isNumber_E hE hΓ hd   σ _ rfl hR

