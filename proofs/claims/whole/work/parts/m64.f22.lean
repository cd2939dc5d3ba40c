set_option maxRecDepth 100000 in
set_option maxHeartbeats 4000000 in
theorem L_X11_draw_E {Γ : fhX} (hE : fhEok fhYF (fhEn Γ)) (hΓ : fhOk fhYF 11 cX11_draw 2 (some .int) Γ) (hd : 0 ≤ fhD Γ) (v1 : Int32)  (σ : fhM) (o : Int32 × fhM) (h : f_X11_draw v1 σ = some o) (hk : (fun o => fhRet Γ (some (.int o.1)) o.2) o) : fhW fhYF Γ 0 [(0, .ref 0), (1, .int v1)] [] σ := by
  unfold f_X11_draw at h
  refine fhW.blk fhPF fhLL hΓ [(.aload_n 0, 0)] (pc' := 1) (lv' := [(0, .ref 0), (1, .int v1)]) (st' := [.ref 0]) (σ' := σ) (by decide +kernel) rfl rfl rfl ?_
  refine fhW.ldcw hΓ (v := 1103515245) (fhm (in_t (in_6 (List.mem_of_getElem? (i := 22) rfl))) rfl) (show decode _ _ = .ok (.ldc_w 359, 3) by decide +kernel) ?_
  refine fhW.blk fhPF fhLL hΓ [(.aload_n 0, 0), (.getfield 96, 0), (.imul, 0), (.sipush 12345, 12345), (.iadd, 0)] (pc' := 13) (lv' := [(0, .ref 0), (1, .int v1)]) (st' := [.int (((1103515245 : Int32) * (σ.1 0 16)) + (12345 : Int32)), .ref 0]) (σ' := σ) (by decide +kernel) rfl rfl rfl ?_
  refine fhW.ldcw hΓ (v := 2147483647) (fhm (in_t (in_6 (List.mem_of_getElem? (i := 23) rfl))) rfl) (show decode _ _ = .ok (.ldc_w 360, 3) by decide +kernel) ?_
  refine fhW.blk fhPF fhLL hΓ [(.iand, 0), (.putfield 96, 0), (.iload_n 1, 0)] (pc' := 21) (lv' := [(0, .ref 0), (1, .int v1)]) (st' := [.int v1]) (σ' := (fhI σ 0 16 ((((1103515245 : Int32) * (σ.1 0 16)) + (12345 : Int32)) &&& (2147483647 : Int32)))) (by decide +kernel) rfl rfl rfl ?_
  refine fhW.z_le hΓ (tgt := 36) (show fhbk _ _ (.ifCond .le (15)) _ = true by decide +kernel) (fun hc => ?_) (fun hc => ?_)
  · rw [if_pos hc] at h
    refine fhW.blk fhPF fhLL hΓ [(.iconst 0, 0)] (pc' := 37) (lv' := [(0, .ref 0), (1, .int v1)]) (st' := [.int (0 : Int32)]) (σ' := (fhI σ 0 16 ((((1103515245 : Int32) * (σ.1 0 16)) + (12345 : Int32)) &&& (2147483647 : Int32)))) (by decide +kernel) rfl rfl rfl ?_
    have e9 := Option.some.inj h
    subst e9
    exact fhW.iret hΓ (by decide +kernel) hk
  · rw [if_neg hc] at h
    obtain ⟨hg1, h⟩ := fhif h
    refine fhW.blk fhPF fhLL hΓ [(.aload_n 0, 0), (.getfield 96, 0), (.bipush 64, 64), (.idiv, 0), (.iload_n 1, 0), (.irem, 0)] (pc' := 33) (lv' := [(0, .ref 0), (1, .int v1)]) (st' := [.int (fhrem (((((1103515245 : Int32) * (σ.1 0 16)) + (12345 : Int32)) &&& (2147483647 : Int32)) / (64 : Int32)) v1)]) (σ' := (fhI σ 0 16 ((((1103515245 : Int32) * (σ.1 0 16)) + (12345 : Int32)) &&& (2147483647 : Int32)))) (by decide +kernel) rfl rfl hg1 ?_
    refine fhW.goto hΓ (off := 4) (tgt := 37) (by decide +kernel) ?_
    have e9 := Option.some.inj h
    subst e9
    exact fhW.iret hΓ (by decide +kernel) hk
set_option maxRecDepth 100000 in
theorem T_X11_draw {E : fhE} {d : Nat} (hE : fhEok fhYF E) (hd : 0 ≤ d) (v1 : Int32)  (σ : fhM) {o : Int32 × fhM} (h : f_X11_draw v1 σ = some o) : fhC fhYF E d miX11_draw [.ref 0, .int v1] σ (some (.int o.1)) o.2 := by
  refine fhC.of (y := yX11_draw) (cc := cX11_draw) (nL := 2) (ret := (some .int)) 11 rfl (by decide +kernel) (Nat.le_of_ble_eq_true rfl) ?_
  intro Γ hΓ hR hD hEn
  subst hD; subst hEn
  exact L_X11_draw_E hE hΓ hd v1  σ _ h hR
set_option maxRecDepth 100000 in
set_option maxHeartbeats 4000000 in
theorem L_X11_chance_33 {Γ : fhX} (hE : fhEok fhYF (fhEn Γ)) (hΓ : fhOk fhYF 11 cX11_chance 5 (some .int) Γ) (hd : 6 ≤ fhD Γ)   (σ : fhM) (o : Int32 × fhM) (h : f_X11_chance_33 σ = some o) (hk : (fun o => fhRet Γ (some (.int o.1)) o.2) o) : fhW fhYF Γ 33 [(0, .ref 0)] [] σ := by
  unfold f_X11_chance_33 at h
  refine fhW.blk fhPF fhLL hΓ [(.aload_n 0, 0), (.iconst 3, 3)] (pc' := 35) (lv' := [(0, .ref 0)]) (st' := [.int (3 : Int32), .ref 0]) (σ' := σ) (by decide +kernel) rfl rfl rfl ?_
  refine fhW.callv hΓ mvX11_refuse ml_11_106 (t := 0) (ci := 11) (av := [.int (3 : Int32)]) (rest := []) (r := (some (.int (f_X11_refuse (3 : Int32) σ).1))) (σ' := (f_X11_refuse (3 : Int32) σ).2) (T_X11_refuse (E := fhEn Γ) (d := fhD Γ - 1) hE (by omega) (3 : Int32) σ) (by omega) (by decide +kernel) rfl rfl rfl (Nat.le_of_ble_eq_true rfl) rfl ?_
  show fhW fhYF Γ 38 [(0, .ref 0)] [.int (f_X11_refuse (3 : Int32) σ).1] (f_X11_refuse (3 : Int32) σ).2
  obtain ⟨q2, e1, h⟩ := fhlet_elim h
  rw [← e1]
  have e9 := Option.some.inj h
  subst e9
  exact fhW.iret hΓ (by decide +kernel) hk
set_option maxRecDepth 100000 in
set_option maxHeartbeats 4000000 in
theorem L_X11_chance_104 {Γ : fhX} (hE : fhEok fhYF (fhEn Γ)) (hΓ : fhOk fhYF 11 cX11_chance 5 (some .int) Γ) (hd : 6 ≤ fhD Γ) (v1 : Int32) (v2 : Int32) (v3 : Int32) (v4 : Int32)  (σ : fhM) (o : (Int32 × Int32 × fhM) ⊕ (Int32 × fhM)) (h : f_X11_chance_104 v1 v2 v3 v4 σ = some o) (hk : (fhK (fun x => fhW fhYF Γ 54 [(0, .ref 0), (1, .int v1), (2, .int x.1), (3, .int x.2.1)] [] x.2.2) (fun o => fhRet Γ (some (.int o.1)) o.2)) o) : fhW fhYF Γ 104 [(0, .ref 0), (1, .int v1), (2, .int v2), (3, .int v3), (4, .int v4)] [] σ := by
  unfold f_X11_chance_104 at h
  refine fhW.blk fhPF fhLL hΓ [(.aload_n 0, 0), (.iload 4, 0)] (pc' := 107) (lv' := [(0, .ref 0), (1, .int v1), (2, .int v2), (3, .int v3), (4, .int v4)]) (st' := [.int v4, .ref 0]) (σ' := σ) (by decide +kernel) rfl rfl rfl ?_
  obtain ⟨q5, hb1, h⟩ := Option.bind_eq_some_iff.mp h
  refine fhW.callv hΓ mvX11_playRound ml_11_333 (t := 0) (ci := 11) (av := [.int v4]) (rest := []) (r := (some (.int q5.1))) (σ' := q5.2) (T_X11_playRound (E := fhEn Γ) (d := fhD Γ - 1) hE (by omega) v4 σ hb1) (by omega) (by decide +kernel) rfl rfl rfl (Nat.le_of_ble_eq_true rfl) rfl ?_
  show fhW fhYF Γ 110 [(0, .ref 0), (1, .int v1), (2, .int v2), (3, .int v3), (4, .int v4)] [.int q5.1] q5.2
  refine fhW.blk fhPF fhLL hΓ [(.pop, 0), (.iinc 3 1, 1)] (pc' := 114) (lv' := [(3, .int (v3 + (1 : Int32))), (0, .ref 0), (1, .int v1), (2, .int v2), (4, .int v4)]) (st' := []) (σ' := q5.2) (by decide +kernel) rfl rfl rfl ?_
  refine fhW.goto hΓ (off := (-60)) (tgt := 54) (by decide +kernel) ?_
  refine fhW.sub (lv' := [(0, .ref 0), (1, .int v1), (2, .int v2), (3, .int (v3 + (1 : Int32)))]) [1, 2, 3, 0] rfl ?_
  have e9 := Option.some.inj h
  subst e9
  exact hk
set_option maxRecDepth 100000 in
set_option maxHeartbeats 4000000 in
theorem L_X11_chance_54 {Γ : fhX} (hE : fhEok fhYF (fhEn Γ)) (hΓ : fhOk fhYF 11 cX11_chance 5 (some .int) Γ) (hd : 6 ≤ fhD Γ) (v1 : Int32) (v2 : Int32) (v3 : Int32)  (σ : fhM) (o : (Int32 × Int32 × fhM) ⊕ (Int32 × fhM)) (h : f_X11_chance_54 v1 v2 v3 σ = some o) (hk : (fhK (fun x => fhW fhYF Γ 54 [(0, .ref 0), (1, .int v1), (2, .int x.1), (3, .int x.2.1)] [] x.2.2) (fun o => fhRet Γ (some (.int o.1)) o.2)) o) : fhW fhYF Γ 54 [(0, .ref 0), (1, .int v1), (2, .int v2), (3, .int v3)] [] σ := by
  unfold f_X11_chance_54 at h
  refine fhW.blk fhPF fhLL hΓ [(.iload_n 3, 0), (.iload_n 1, 0)] (pc' := 56) (lv' := [(0, .ref 0), (1, .int v1), (2, .int v2), (3, .int v3)]) (st' := [.int v1, .int v3]) (σ' := σ) (by decide +kernel) rfl rfl rfl ?_
  refine fhW.i_ge hΓ (tgt := 117) (show fhbk _ _ (.if_icmp .ge (61)) _ = true by decide +kernel) (fun hc => ?_) (fun hc => ?_)
  · rw [if_pos hc] at h
    refine fhW.blk fhPF fhLL hΓ [(.iload_n 2, 0)] (pc' := 118) (lv' := [(0, .ref 0), (1, .int v1), (2, .int v2), (3, .int v3)]) (st' := [.int v2]) (σ' := σ) (by decide +kernel) rfl rfl rfl ?_
    have e9 := Option.some.inj h
    subst e9
    exact fhW.iret hΓ (by decide +kernel) hk
  · rw [if_neg hc] at h
    refine fhW.blk fhPF fhLL hΓ [(.iconst (-1), -1), (.istore 4, 0), (.aload_n 0, 0), (.bipush 100, 100)] (pc' := 65) (lv' := [(4, .int (-1 : Int32)), (0, .ref 0), (1, .int v1), (2, .int v2), (3, .int v3)]) (st' := [.int (100 : Int32), .ref 0]) (σ' := σ) (by decide +kernel) rfl rfl rfl ?_
    obtain ⟨q3, hb2, h⟩ := Option.bind_eq_some_iff.mp h
    refine fhW.callv hΓ mvX11_draw ml_11_350 (t := 0) (ci := 11) (av := [.int (100 : Int32)]) (rest := []) (r := (some (.int q3.1))) (σ' := q3.2) (T_X11_draw (E := fhEn Γ) (d := fhD Γ - 1) hE (by omega) (100 : Int32) σ hb2) (by omega) (by decide +kernel) rfl rfl rfl (Nat.le_of_ble_eq_true rfl) rfl ?_
    show fhW fhYF Γ 68 [(4, .int (-1 : Int32)), (0, .ref 0), (1, .int v1), (2, .int v2), (3, .int v3)] [.int q3.1] q3.2
    obtain ⟨hy1, h⟩ := fhif h
    refine fhW.blk fhPF fhLL hΓ [(.aload_n 0, 0), (.getfield 53, 0), (.getfield 353, 0)] (pc' := 75) (lv' := [(4, .int (-1 : Int32)), (0, .ref 0), (1, .int v1), (2, .int v2), (3, .int v3)]) (st' := [.int (q3.2.1 (q3.2.2.2 0 6) 13), .int q3.1]) (σ' := q3.2) (by decide +kernel) rfl rfl (by have hq := hy1; generalize (q3.2.2.2 0 6) = qq at hq ⊢; rcases fhiP_or hq with rfl | rfl <;> rfl) ?_
    refine fhW.i_ge hΓ (tgt := 104) (show fhbk _ _ (.if_icmp .ge (29)) _ = true by decide +kernel) (fun hc => ?_) (fun hc => ?_)
    · rw [if_pos hc] at h
      refine fhW.sub (lv' := [(0, .ref 0), (1, .int v1), (2, .int v2), (3, .int v3), (4, .int (-1 : Int32))]) [1, 2, 3, 4, 0] rfl ?_
      exact L_X11_chance_104 hE hΓ hd v1 v2 v3 (-1 : Int32) q3.2 _ h hk
    · rw [if_neg hc] at h
      refine fhW.blk fhPF fhLL hΓ [(.aload_n 0, 0), (.getfield 63, 0), (.getfield 177, 0)] (pc' := 85) (lv' := [(4, .int (-1 : Int32)), (0, .ref 0), (1, .int v1), (2, .int v2), (3, .int v3)]) (st' := [.int (q3.2.1 39 9)]) (σ' := q3.2) (by decide +kernel) rfl rfl rfl ?_
      refine fhW.z_le hΓ (tgt := 104) (show fhbk _ _ (.ifCond .le (19)) _ = true by decide +kernel) (fun hc => ?_) (fun hc => ?_)
      · rw [if_pos hc] at h
        refine fhW.sub (lv' := [(0, .ref 0), (1, .int v1), (2, .int v2), (3, .int v3), (4, .int (-1 : Int32))]) [1, 2, 3, 4, 0] rfl ?_
        exact L_X11_chance_104 hE hΓ hd v1 v2 v3 (-1 : Int32) q3.2 _ h hk
      · rw [if_neg hc] at h
        refine fhW.blk fhPF fhLL hΓ [(.aload_n 0, 0), (.aload_n 0, 0), (.getfield 63, 0), (.getfield 177, 0)] (pc' := 96) (lv' := [(4, .int (-1 : Int32)), (0, .ref 0), (1, .int v1), (2, .int v2), (3, .int v3)]) (st' := [.int (q3.2.1 39 9), .ref 0]) (σ' := q3.2) (by decide +kernel) rfl rfl rfl ?_
        obtain ⟨q4, hb3, h⟩ := Option.bind_eq_some_iff.mp h
        refine fhW.callv hΓ mvX11_draw ml_11_350 (t := 0) (ci := 11) (av := [.int (q3.2.1 39 9)]) (rest := []) (r := (some (.int q4.1))) (σ' := q4.2) (T_X11_draw (E := fhEn Γ) (d := fhD Γ - 1) hE (by omega) (q3.2.1 39 9) q3.2 hb3) (by omega) (by decide +kernel) rfl rfl rfl (Nat.le_of_ble_eq_true rfl) rfl ?_
        show fhW fhYF Γ 99 [(4, .int (-1 : Int32)), (0, .ref 0), (1, .int v1), (2, .int v2), (3, .int v3)] [.int q4.1] q4.2
        refine fhW.blk fhPF fhLL hΓ [(.istore 4, 0), (.iinc 2 1, 1)] (pc' := 104) (lv' := [(2, .int (v2 + (1 : Int32))), (4, .int q4.1), (0, .ref 0), (1, .int v1), (3, .int v3)]) (st' := []) (σ' := q4.2) (by decide +kernel) rfl rfl rfl ?_
        refine fhW.sub (lv' := [(0, .ref 0), (1, .int v1), (2, .int (v2 + (1 : Int32))), (3, .int v3), (4, .int q4.1)]) [2, 3, 0, 4, 1] rfl ?_
        exact L_X11_chance_104 hE hΓ hd v1 (v2 + (1 : Int32)) v3 q4.1 q4.2 _ h hk
set_option maxRecDepth 100000 in
set_option maxHeartbeats 4000000 in
theorem L_X11_chance_E {Γ : fhX} (hE : fhEok fhYF (fhEn Γ)) (hΓ : fhOk fhYF 11 cX11_chance 5 (some .int) Γ) (hd : 6 ≤ fhD Γ) (v1 : Int32)  (σ : fhM) (o : Int32 × fhM) (h : f_X11_chance v1 σ = some o) (hk : (fun o => fhRet Γ (some (.int o.1)) o.2) o) : fhW fhYF Γ 0 [(0, .ref 0), (1, .int v1)] [] σ := by
  unfold f_X11_chance at h
  refine fhW.blk fhPF fhLL hΓ [(.aload_n 0, 0), (.getfield 145, 0)] (pc' := 4) (lv' := [(0, .ref 0), (1, .int v1)]) (st' := [.int (σ.1 0 8)]) (σ' := σ) (by decide +kernel) rfl rfl rfl ?_
  refine fhW.z_eq hΓ (tgt := 33) (show fhbk _ _ (.ifCond .eq (29)) _ = true by decide +kernel) (fun hc => ?_) (fun hc => ?_)
  · rw [if_pos hc] at h
    refine fhW.sub (lv' := [(0, .ref 0)]) [0] rfl ?_
    exact L_X11_chance_33 hE hΓ hd σ _ h hk
  · rw [if_neg hc] at h
    refine fhW.blk fhPF fhLL hΓ [(.iload_n 1, 0), (.iconst 1, 1)] (pc' := 9) (lv' := [(0, .ref 0), (1, .int v1)]) (st' := [.int (1 : Int32), .int v1]) (σ' := σ) (by decide +kernel) rfl rfl rfl ?_
    refine fhW.i_lt hΓ (tgt := 33) (show fhbk _ _ (.if_icmp .lt (24)) _ = true by decide +kernel) (fun hc => ?_) (fun hc => ?_)
    · rw [if_pos hc] at h
      refine fhW.sub (lv' := [(0, .ref 0)]) [0] rfl ?_
      exact L_X11_chance_33 hE hΓ hd σ _ h hk
    · rw [if_neg hc] at h
      refine fhW.blk fhPF fhLL hΓ [(.iload_n 1, 0), (.bipush 20, 20)] (pc' := 15) (lv' := [(0, .ref 0), (1, .int v1)]) (st' := [.int (20 : Int32), .int v1]) (σ' := σ) (by decide +kernel) rfl rfl rfl ?_
      refine fhW.i_gt hΓ (tgt := 33) (show fhbk _ _ (.if_icmp .gt (18)) _ = true by decide +kernel) (fun hc => ?_) (fun hc => ?_)
      · rw [if_pos hc] at h
        refine fhW.sub (lv' := [(0, .ref 0)]) [0] rfl ?_
        exact L_X11_chance_33 hE hΓ hd σ _ h hk
      · rw [if_neg hc] at h
        refine fhW.blk fhPF fhLL hΓ [(.aload_n 0, 0), (.getfield 72, 0), (.getfield 186, 0), (.iload_n 1, 0), (.iadd, 0), (.sipush 999, 999)] (pc' := 30) (lv' := [(0, .ref 0), (1, .int v1)]) (st' := [.int (999 : Int32), .int ((σ.1 56 10) + v1)]) (σ' := σ) (by decide +kernel) rfl rfl rfl ?_
        refine fhW.i_le hΓ (tgt := 39) (show fhbk _ _ (.if_icmp .le (9)) _ = true by decide +kernel) (fun hc => ?_) (fun hc => ?_)
        · rw [if_pos hc] at h
          refine fhW.blk fhPF fhLL hΓ [(.aload_n 0, 0), (.getfield 86, 0), (.aload_n 0, 0), (.getfield 72, 0)] (pc' := 47) (lv' := [(0, .ref 0), (1, .int v1)]) (st' := [.ref 56, .ref 93]) (σ' := σ) (by decide +kernel) rfl rfl rfl ?_
          obtain ⟨q1, hb4, h⟩ := Option.bind_eq_some_iff.mp h
          refine fhW.callv hΓ mvX6_save ml_11_329 (t := 93) (ci := 6) (av := [.ref 56]) (rest := []) (r := none) (σ' := q1) (T_X6_save (E := fhEn Γ) (d := fhD Γ - 1) hE (by omega) σ hb4) (by omega) (by decide +kernel) rfl rfl rfl (Nat.le_of_ble_eq_true rfl) rfl ?_
          show fhW fhYF Γ 50 [(0, .ref 0), (1, .int v1)] [] q1
          refine fhW.blk fhPF fhLL hΓ [(.iconst 0, 0), (.istore_n 2, 0), (.iconst 0, 0), (.istore_n 3, 0)] (pc' := 54) (lv' := [(3, .int (0 : Int32)), (2, .int (0 : Int32)), (0, .ref 0), (1, .int v1)]) (st' := []) (σ' := q1) (by decide +kernel) rfl rfl rfl ?_
          refine fhW.sub (lv' := [(0, .ref 0), (1, .int v1), (2, .int (0 : Int32)), (3, .int (0 : Int32))]) [2, 3, 1, 0] rfl ?_
          exact fhlp_ok (W := (fun x => fhW fhYF Γ 54 [(0, .ref 0), (1, .int v1), (2, .int x.1), (3, .int x.2.1)] [] x.2.2)) (B := (fun o => fhRet Γ (some (.int o.1)) o.2)) (fun x o h hk => L_X11_chance_54 hE hΓ hd v1 x.1 x.2.1 x.2.2 o h hk) ((0 : Int32), (0 : Int32), q1) _ h hk
        · rw [if_neg hc] at h
          refine fhW.sub (lv' := [(0, .ref 0)]) [0] rfl ?_
          exact L_X11_chance_33 hE hΓ hd σ _ h hk
set_option maxRecDepth 100000 in
theorem T_X11_chance {E : fhE} {d : Nat} (hE : fhEok fhYF E) (hd : 6 ≤ d) (v1 : Int32)  (σ : fhM) {o : Int32 × fhM} (h : f_X11_chance v1 σ = some o) : fhC fhYF E d miX11_chance [.ref 0, .int v1] σ (some (.int o.1)) o.2 := by
  refine fhC.of (y := yX11_chance) (cc := cX11_chance) (nL := 5) (ret := (some .int)) 11 rfl (by decide +kernel) (Nat.le_of_ble_eq_true rfl) ?_
  intro Γ hΓ hR hD hEn
  subst hD; subst hEn
  exact L_X11_chance_E hE hΓ hd v1  σ _ h hR
set_option maxRecDepth 100000 in
set_option maxHeartbeats 4000000 in
theorem L_X11_deal_E {Γ : fhX} (hE : fhEok fhYF (fhEn Γ)) (hΓ : fhOk fhYF 11 cX11_deal 1 (some .int) Γ) (hd : 5 ≤ fhD Γ)   (σ : fhM) (o : Int32 × fhM) (h : f_X11_deal σ = some o) (hk : (fun o => fhRet Γ (some (.int o.1)) o.2) o) : fhW fhYF Γ 0 [(0, .ref 0)] [] σ := by
  unfold f_X11_deal at h
  refine fhW.blk fhPF fhLL hΓ [(.aload_n 0, 0), (.getfield 145, 0)] (pc' := 4) (lv' := [(0, .ref 0)]) (st' := [.int (σ.1 0 8)]) (σ' := σ) (by decide +kernel) rfl rfl rfl ?_
  refine fhW.z_ne hΓ (tgt := 13) (show fhbk _ _ (.ifCond .ne (9)) _ = true by decide +kernel) (fun hc => ?_) (fun hc => ?_)
  · rw [if_neg hc] at h
    refine fhW.blk fhPF fhLL hΓ [(.aload_n 0, 0), (.getfield 86, 0), (.aload_n 0, 0), (.getfield 72, 0)] (pc' := 21) (lv' := [(0, .ref 0)]) (st' := [.ref 56, .ref 93]) (σ' := σ) (by decide +kernel) rfl rfl rfl ?_
    obtain ⟨q1, hb1, h⟩ := Option.bind_eq_some_iff.mp h
    refine fhW.callv hΓ mvX6_save ml_11_329 (t := 93) (ci := 6) (av := [.ref 56]) (rest := []) (r := none) (σ' := q1) (T_X6_save (E := fhEn Γ) (d := fhD Γ - 1) hE (by omega) σ hb1) (by omega) (by decide +kernel) rfl rfl rfl (Nat.le_of_ble_eq_true rfl) rfl ?_
    show fhW fhYF Γ 24 [(0, .ref 0)] [] q1
    refine fhW.blk fhPF fhLL hΓ [(.aload_n 0, 0), (.getfield 72, 0), (.aload_n 0, 0), (.getfield 63, 0), (.getfield 356, 0), (.aload_n 0, 0), (.aload_n 0, 0), (.getfield 63, 0), (.getfield 192, 0)] (pc' := 43) (lv' := [(0, .ref 0)]) (st' := [.int (q1.1 39 12), .ref 0, .ref 54, .ref 56]) (σ' := q1) (by decide +kernel) rfl rfl rfl ?_
    obtain ⟨q2, hb2, h⟩ := Option.bind_eq_some_iff.mp h
    refine fhW.callv hΓ mvX11_draw ml_11_350 (t := 0) (ci := 11) (av := [.int (q1.1 39 12)]) (rest := [.ref 54, .ref 56]) (r := (some (.int q2.1))) (σ' := q2.2) (T_X11_draw (E := fhEn Γ) (d := fhD Γ - 1) hE (by omega) (q1.1 39 12) q1 hb2) (by omega) (by decide +kernel) rfl rfl rfl (Nat.le_of_ble_eq_true rfl) rfl ?_
    show fhW fhYF Γ 46 [(0, .ref 0)] [.int q2.1, .ref 54, .ref 56] q2.2
    refine fhW.callv hΓ mvX2_get ml_11_117 (t := 54) (ci := 2) (av := [.int q2.1]) (rest := [.ref 56]) (r := (some (.int (fcG q2.2 54 q2.1)))) (σ' := q2.2) (T_X2_get (E := fhEn Γ) (d := fhD Γ - 1) hE (by omega) 54 q2.1 rfl q2.2) (by omega) (by decide +kernel) rfl rfl rfl (Nat.le_of_ble_eq_true rfl) rfl ?_
    show fhW fhYF Γ 49 [(0, .ref 0)] [.int (fcG q2.2 54 q2.1), .ref 56] q2.2
    obtain ⟨q3, hb3, h⟩ := Option.bind_eq_some_iff.mp h
    refine fhW.callv hΓ mvX4_begin ml_11_156 (t := 56) (ci := 4) (av := [.int (fcG q2.2 54 q2.1)]) (rest := []) (r := none) (σ' := q3) (T_X4_begin (E := fhEn Γ) (d := fhD Γ - 1) hE (by omega) (fcG q2.2 54 q2.1) q2.2 hb3) (by omega) (by decide +kernel) rfl rfl rfl (Nat.le_of_ble_eq_true rfl) rfl ?_
    show fhW fhYF Γ 52 [(0, .ref 0)] [] q3
    refine fhW.blk fhPF fhLL hΓ [(.aload_n 0, 0), (.getfield 72, 0), (.getfield 219, 0)] (pc' := 59) (lv' := [(0, .ref 0)]) (st' := [.int (q3.1 56 9)]) (σ' := q3) (by decide +kernel) rfl rfl rfl ?_
    have e9 := Option.some.inj h
    subst e9
    exact fhW.iret hΓ (by decide +kernel) hk
  · rw [if_pos hc] at h
    refine fhW.blk fhPF fhLL hΓ [(.aload_n 0, 0), (.iconst 3, 3)] (pc' := 9) (lv' := [(0, .ref 0)]) (st' := [.int (3 : Int32), .ref 0]) (σ' := σ) (by decide +kernel) rfl rfl rfl ?_
    refine fhW.callv hΓ mvX11_refuse ml_11_106 (t := 0) (ci := 11) (av := [.int (3 : Int32)]) (rest := []) (r := (some (.int (f_X11_refuse (3 : Int32) σ).1))) (σ' := (f_X11_refuse (3 : Int32) σ).2) (T_X11_refuse (E := fhEn Γ) (d := fhD Γ - 1) hE (by omega) (3 : Int32) σ) (by omega) (by decide +kernel) rfl rfl rfl (Nat.le_of_ble_eq_true rfl) rfl ?_
    show fhW fhYF Γ 12 [(0, .ref 0)] [.int (f_X11_refuse (3 : Int32) σ).1] (f_X11_refuse (3 : Int32) σ).2
    obtain ⟨q4, e1, h⟩ := fhlet_elim h
    rw [← e1]
    have e9 := Option.some.inj h
    subst e9
    exact fhW.iret hΓ (by decide +kernel) hk
set_option maxRecDepth 100000 in
theorem T_X11_deal {E : fhE} {d : Nat} (hE : fhEok fhYF E) (hd : 5 ≤ d)   (σ : fhM) {o : Int32 × fhM} (h : f_X11_deal σ = some o) : fhC fhYF E d miX11_deal [.ref 0] σ (some (.int o.1)) o.2 := by
  refine fhC.of (y := yX11_deal) (cc := cX11_deal) (nL := 1) (ret := (some .int)) 11 rfl (by decide +kernel) (Nat.le_of_ble_eq_true rfl) ?_
  intro Γ hΓ hR hD hEn
  subst hD; subst hEn
  exact L_X11_deal_E hE hΓ hd   σ _ h hR
set_option maxRecDepth 100000 in
set_option maxHeartbeats 4000000 in
theorem L_X6_restore_147 {Γ : fhX} (hE : fhEok fhYF (fhEn Γ)) (hΓ : fhOk fhYF 6 cX6_restore 4 (some .boolean) Γ) (hd : 4 ≤ fhD Γ) (v2 : Int32) (v3 : Int32)  (σ : fhM) (o : (Int32 × fhM) ⊕ (Bool × fhM)) (h : f_X6_restore_147 v2 v3 σ = some o) (hk : (fhK (fun x => fhW fhYF Γ 90 [(0, .ref 93), (1, .ref 56), (2, .int v2), (3, .int x.1)] [] x.2) (fun o => fhRet Γ (some (.int (fhb o.1))) o.2)) o) : fhW fhYF Γ 147 [(0, .ref 93), (1, .ref 56), (2, .int v2), (3, .int v3)] [] σ := by
  unfold f_X6_restore_147 at h
  refine fhW.blk fhPF fhLL hΓ [(.iinc 3 1, 1)] (pc' := 150) (lv' := [(3, .int (v3 + (1 : Int32))), (0, .ref 93), (1, .ref 56), (2, .int v2)]) (st' := []) (σ' := σ) (by decide +kernel) rfl rfl rfl ?_
  refine fhW.goto hΓ (off := (-60)) (tgt := 90) (by decide +kernel) ?_
  refine fhW.sub (lv' := [(0, .ref 93), (1, .ref 56), (2, .int v2), (3, .int (v3 + (1 : Int32)))]) [1, 2, 3, 0] rfl ?_
  have e9 := Option.some.inj h
  subst e9
  exact hk
set_option maxRecDepth 100000 in
set_option maxHeartbeats 4000000 in
theorem L_X6_restore_90 {Γ : fhX} (hE : fhEok fhYF (fhEn Γ)) (hΓ : fhOk fhYF 6 cX6_restore 4 (some .boolean) Γ) (hd : 4 ≤ fhD Γ) (v2 : Int32) (v3 : Int32)  (σ : fhM) (o : (Int32 × fhM) ⊕ (Bool × fhM)) (h : f_X6_restore_90 v2 v3 σ = some o) (hk : (fhK (fun x => fhW fhYF Γ 90 [(0, .ref 93), (1, .ref 56), (2, .int v2), (3, .int x.1)] [] x.2) (fun o => fhRet Γ (some (.int (fhb o.1))) o.2)) o) : fhW fhYF Γ 90 [(0, .ref 93), (1, .ref 56), (2, .int v2), (3, .int v3)] [] σ := by
  unfold f_X6_restore_90 at h
  refine fhW.blk fhPF fhLL hΓ [(.iload_n 3, 0), (.aload_n 1, 0), (.getfield 65, 0), (.getfield 69, 0)] (pc' := 98) (lv' := [(0, .ref 93), (1, .ref 56), (2, .int v2), (3, .int v3)]) (st' := [.int (σ.1 39 11), .int v3]) (σ' := σ) (by decide +kernel) rfl rfl rfl ?_
  refine fhW.i_ge hΓ (tgt := 153) (show fhbk _ _ (.if_icmp .ge (55)) _ = true by decide +kernel) (fun hc => ?_) (fun hc => ?_)
  · rw [if_pos hc] at h
    refine fhW.blk fhPF fhLL hΓ [(.aload_n 1, 0)] (pc' := 154) (lv' := [(0, .ref 93), (1, .ref 56), (2, .int v2), (3, .int v3)]) (st' := [.ref 56]) (σ' := σ) (by decide +kernel) rfl rfl rfl ?_
    obtain ⟨q1, hb1, h⟩ := Option.bind_eq_some_iff.mp h
    refine fhW.callv hΓ mvX4_settle ml_6_74 (t := 56) (ci := 4) (av := []) (rest := []) (r := none) (σ' := q1) (T_X4_settle (E := fhEn Γ) (d := fhD Γ - 1) hE (by omega) σ hb1) (by omega) (by decide +kernel) rfl rfl rfl (Nat.le_of_ble_eq_true rfl) rfl ?_
    show fhW fhYF Γ 157 [(0, .ref 93), (1, .ref 56), (2, .int v2), (3, .int v3)] [] q1
    refine fhW.blk fhPF fhLL hΓ [(.iconst 1, 1)] (pc' := 158) (lv' := [(0, .ref 93), (1, .ref 56), (2, .int v2), (3, .int v3)]) (st' := [.int (1 : Int32)]) (σ' := q1) (by decide +kernel) rfl rfl rfl ?_
    have e9 := Option.some.inj h
    subst e9
    exact fhW.zret (v := true) hΓ (by decide +kernel) hk
  · rw [if_neg hc] at h
    refine fhW.blk fhPF fhLL hΓ [(.aload_n 0, 0), (.getfield 20, 0), (.iload_n 2, 0), (.iconst 3, 3), (.iadd, 0), (.iload_n 3, 0), (.iconst 5, 5), (.ishr, 0), (.iadd, 0)] (pc' := 112) (lv' := [(0, .ref 93), (1, .ref 56), (2, .int v2), (3, .int v3)]) (st' := [.int ((v2 + (3 : Int32)) + (v3 >>> ((5 : Int32) &&& 31))), .ref 96]) (σ' := σ) (by decide +kernel) rfl rfl rfl ?_
    refine fhW.callv hΓ mvX2_get ml_6_47 (t := 96) (ci := 2) (av := [.int ((v2 + (3 : Int32)) + (v3 >>> ((5 : Int32) &&& 31)))]) (rest := []) (r := (some (.int (fcG σ 96 ((v2 + (3 : Int32)) + (v3 >>> ((5 : Int32) &&& 31))))))) (σ' := σ) (T_X2_get (E := fhEn Γ) (d := fhD Γ - 1) hE (by omega) 96 ((v2 + (3 : Int32)) + (v3 >>> ((5 : Int32) &&& 31))) rfl σ) (by omega) (by decide +kernel) rfl rfl rfl (Nat.le_of_ble_eq_true rfl) rfl ?_
    show fhW fhYF Γ 115 [(0, .ref 93), (1, .ref 56), (2, .int v2), (3, .int v3)] [.int (fcG σ 96 ((v2 + (3 : Int32)) + (v3 >>> ((5 : Int32) &&& 31))))] σ
    refine fhW.blk fhPF fhLL hΓ [(.iload_n 3, 0), (.bipush 31, 31), (.iand, 0), (.ishr, 0), (.iconst 1, 1), (.iand, 0)] (pc' := 122) (lv' := [(0, .ref 93), (1, .ref 56), (2, .int v2), (3, .int v3)]) (st' := [.int (((fcG σ 96 ((v2 + (3 : Int32)) + (v3 >>> ((5 : Int32) &&& 31)))) >>> ((v3 &&& (31 : Int32)) &&& 31)) &&& (1 : Int32))]) (σ' := σ) (by decide +kernel) rfl rfl rfl ?_
    refine fhW.z_eq hΓ (tgt := 147) (show fhbk _ _ (.ifCond .eq (25)) _ = true by decide +kernel) (fun hc => ?_) (fun hc => ?_)
    · rw [if_pos hc] at h
      refine fhW.sub (lv' := [(0, .ref 93), (1, .ref 56), (2, .int v2), (3, .int v3)]) [0, 1, 2, 3] rfl ?_
      exact L_X6_restore_147 hE hΓ hd v2 v3 σ _ h hk
    · rw [if_neg hc] at h
      refine fhW.blk fhPF fhLL hΓ [(.aload_n 1, 0), (.getfield 62, 0), (.aload_n 1, 0), (.getfield 59, 0), (.iload_n 3, 0)] (pc' := 134) (lv' := [(0, .ref 93), (1, .ref 56), (2, .int v2), (3, .int v3)]) (st' := [.int v3, .int (σ.1 56 8), .ref 72]) (σ' := σ) (by decide +kernel) rfl rfl rfl ?_
      refine fhW.callv hΓ mvX2_put ml_6_33 (t := 72) (ci := 2) (av := [.int (σ.1 56 8), .int v3]) (rest := []) (r := none) (σ' := (fcP σ 72 (σ.1 56 8) v3)) (T_X2_put (E := fhEn Γ) (d := fhD Γ - 1) hE (by omega) 72 (σ.1 56 8) v3 rfl σ) (by omega) (by decide +kernel) rfl rfl rfl (Nat.le_of_ble_eq_true rfl) rfl ?_
      show fhW fhYF Γ 137 [(0, .ref 93), (1, .ref 56), (2, .int v2), (3, .int v3)] [] (fcP σ 72 (σ.1 56 8) v3)
      refine fhW.blk fhPF fhLL hΓ [(.aload_n 1, 0), (.dup, 0), (.getfield 59, 0), (.iconst 1, 1), (.iadd, 0), (.putfield 59, 0)] (pc' := 147) (lv' := [(0, .ref 93), (1, .ref 56), (2, .int v2), (3, .int v3)]) (st' := []) (σ' := (fhI (fcP σ 72 (σ.1 56 8) v3) 56 8 ((σ.1 56 8) + (1 : Int32)))) (by decide +kernel) rfl rfl rfl ?_
      refine fhW.sub (lv' := [(0, .ref 93), (1, .ref 56), (2, .int v2), (3, .int v3)]) [0, 1, 2, 3] rfl ?_
      exact L_X6_restore_147 hE hΓ hd v2 v3 (fhI (fcP σ 72 (σ.1 56 8) v3) 56 8 ((σ.1 56 8) + (1 : Int32))) _ h hk
set_option maxRecDepth 100000 in
set_option maxHeartbeats 4000000 in
theorem L_X6_restore_E {Γ : fhX} (hE : fhEok fhYF (fhEn Γ)) (hΓ : fhOk fhYF 6 cX6_restore 4 (some .boolean) Γ) (hd : 4 ≤ fhD Γ)   (σ : fhM) (o : Bool × fhM) (h : f_X6_restore σ = some o) (hk : (fun o => fhRet Γ (some (.int (fhb o.1))) o.2) o) : fhW fhYF Γ 0 [(0, .ref 93), (1, .ref 56)] [] σ := by
  unfold f_X6_restore at h
  refine fhW.blk fhPF fhLL hΓ [(.aload_n 0, 0), (.getfield 30, 0)] (pc' := 4) (lv' := [(0, .ref 93), (1, .ref 56)]) (st' := [.int (σ.1 93 4)]) (σ' := σ) (by decide +kernel) rfl rfl rfl ?_
  refine fhW.z_ne hΓ (tgt := 9) (show fhbk _ _ (.ifCond .ne (5)) _ = true by decide +kernel) (fun hc => ?_) (fun hc => ?_)
  · rw [if_neg hc] at h
    refine fhW.blk fhPF fhLL hΓ [(.aload_n 0, 0), (.dup, 0), (.getfield 30, 0), (.iconst 1, 1), (.isub, 0), (.putfield 30, 0), (.aload_n 0, 0), (.aload_n 0, 0), (.getfield 27, 0), (.bipush 20, 20), (.iadd, 0), (.iconst 1, 1), (.isub, 0), (.bipush 20, 20), (.irem, 0), (.putfield 27, 0), (.aload_n 0, 0), (.getfield 27, 0), (.bipush 35, 35), (.imul, 0), (.istore_n 2, 0)] (pc' := 43) (lv' := [(2, .int ((fhrem (((σ.1 93 3) + (20 : Int32)) - (1 : Int32)) (20 : Int32)) * (35 : Int32))), (0, .ref 93), (1, .ref 56)]) (st' := []) (σ' := (fhI (fhI σ 93 4 ((σ.1 93 4) - (1 : Int32))) 93 3 (fhrem (((σ.1 93 3) + (20 : Int32)) - (1 : Int32)) (20 : Int32)))) (by decide +kernel) rfl rfl rfl ?_
    obtain ⟨w2_1, e1, h⟩ := fhlet_elim h
    rw [← e1]
    refine fhW.blk fhPF fhLL hΓ [(.aload_n 1, 0), (.aload_n 0, 0), (.getfield 20, 0), (.iload_n 2, 0)] (pc' := 49) (lv' := [(2, .int w2_1), (0, .ref 93), (1, .ref 56)]) (st' := [.int w2_1, .ref 96, .ref 56]) (σ' := (fhI (fhI σ 93 4 ((σ.1 93 4) - (1 : Int32))) 93 3 (fhrem (((σ.1 93 3) + (20 : Int32)) - (1 : Int32)) (20 : Int32)))) (by decide +kernel) rfl rfl rfl ?_
    refine fhW.callv hΓ mvX2_get ml_6_47 (t := 96) (ci := 2) (av := [.int w2_1]) (rest := [.ref 56]) (r := (some (.int (fcG (fhI (fhI σ 93 4 ((σ.1 93 4) - (1 : Int32))) 93 3 (fhrem (((σ.1 93 3) + (20 : Int32)) - (1 : Int32)) (20 : Int32))) 96 w2_1)))) (σ' := (fhI (fhI σ 93 4 ((σ.1 93 4) - (1 : Int32))) 93 3 (fhrem (((σ.1 93 3) + (20 : Int32)) - (1 : Int32)) (20 : Int32)))) (T_X2_get (E := fhEn Γ) (d := fhD Γ - 1) hE (by omega) 96 w2_1 rfl (fhI (fhI σ 93 4 ((σ.1 93 4) - (1 : Int32))) 93 3 (fhrem (((σ.1 93 3) + (20 : Int32)) - (1 : Int32)) (20 : Int32)))) (by omega) (by decide +kernel) rfl rfl rfl (Nat.le_of_ble_eq_true rfl) rfl ?_
    show fhW fhYF Γ 52 [(2, .int w2_1), (0, .ref 93), (1, .ref 56)] [.int (fcG (fhI (fhI σ 93 4 ((σ.1 93 4) - (1 : Int32))) 93 3 (fhrem (((σ.1 93 3) + (20 : Int32)) - (1 : Int32)) (20 : Int32))) 96 w2_1), .ref 56] (fhI (fhI σ 93 4 ((σ.1 93 4) - (1 : Int32))) 93 3 (fhrem (((σ.1 93 3) + (20 : Int32)) - (1 : Int32)) (20 : Int32)))
    refine fhW.blk fhPF fhLL hΓ [(.putfield 51, 0), (.aload_n 1, 0), (.aload_n 0, 0), (.getfield 20, 0), (.iload_n 2, 0), (.iconst 1, 1), (.iadd, 0)] (pc' := 63) (lv' := [(2, .int w2_1), (0, .ref 93), (1, .ref 56)]) (st' := [.int (w2_1 + (1 : Int32)), .ref 96, .ref 56]) (σ' := (fhI (fhI (fhI σ 93 4 ((σ.1 93 4) - (1 : Int32))) 93 3 (fhrem (((σ.1 93 3) + (20 : Int32)) - (1 : Int32)) (20 : Int32))) 56 9 (fcG (fhI (fhI σ 93 4 ((σ.1 93 4) - (1 : Int32))) 93 3 (fhrem (((σ.1 93 3) + (20 : Int32)) - (1 : Int32)) (20 : Int32))) 96 w2_1))) (by decide +kernel) rfl rfl rfl ?_
    refine fhW.callv hΓ mvX2_get ml_6_47 (t := 96) (ci := 2) (av := [.int (w2_1 + (1 : Int32))]) (rest := [.ref 56]) (r := (some (.int (fcG (fhI (fhI (fhI σ 93 4 ((σ.1 93 4) - (1 : Int32))) 93 3 (fhrem (((σ.1 93 3) + (20 : Int32)) - (1 : Int32)) (20 : Int32))) 56 9 (fcG (fhI (fhI σ 93 4 ((σ.1 93 4) - (1 : Int32))) 93 3 (fhrem (((σ.1 93 3) + (20 : Int32)) - (1 : Int32)) (20 : Int32))) 96 w2_1)) 96 (w2_1 + (1 : Int32)))))) (σ' := (fhI (fhI (fhI σ 93 4 ((σ.1 93 4) - (1 : Int32))) 93 3 (fhrem (((σ.1 93 3) + (20 : Int32)) - (1 : Int32)) (20 : Int32))) 56 9 (fcG (fhI (fhI σ 93 4 ((σ.1 93 4) - (1 : Int32))) 93 3 (fhrem (((σ.1 93 3) + (20 : Int32)) - (1 : Int32)) (20 : Int32))) 96 w2_1))) (T_X2_get (E := fhEn Γ) (d := fhD Γ - 1) hE (by omega) 96 (w2_1 + (1 : Int32)) rfl (fhI (fhI (fhI σ 93 4 ((σ.1 93 4) - (1 : Int32))) 93 3 (fhrem (((σ.1 93 3) + (20 : Int32)) - (1 : Int32)) (20 : Int32))) 56 9 (fcG (fhI (fhI σ 93 4 ((σ.1 93 4) - (1 : Int32))) 93 3 (fhrem (((σ.1 93 3) + (20 : Int32)) - (1 : Int32)) (20 : Int32))) 96 w2_1))) (by omega) (by decide +kernel) rfl rfl rfl (Nat.le_of_ble_eq_true rfl) rfl ?_
    show fhW fhYF Γ 66 [(2, .int w2_1), (0, .ref 93), (1, .ref 56)] [.int (fcG (fhI (fhI (fhI σ 93 4 ((σ.1 93 4) - (1 : Int32))) 93 3 (fhrem (((σ.1 93 3) + (20 : Int32)) - (1 : Int32)) (20 : Int32))) 56 9 (fcG (fhI (fhI σ 93 4 ((σ.1 93 4) - (1 : Int32))) 93 3 (fhrem (((σ.1 93 3) + (20 : Int32)) - (1 : Int32)) (20 : Int32))) 96 w2_1)) 96 (w2_1 + (1 : Int32))), .ref 56] (fhI (fhI (fhI σ 93 4 ((σ.1 93 4) - (1 : Int32))) 93 3 (fhrem (((σ.1 93 3) + (20 : Int32)) - (1 : Int32)) (20 : Int32))) 56 9 (fcG (fhI (fhI σ 93 4 ((σ.1 93 4) - (1 : Int32))) 93 3 (fhrem (((σ.1 93 3) + (20 : Int32)) - (1 : Int32)) (20 : Int32))) 96 w2_1))
    refine fhW.blk fhPF fhLL hΓ [(.putfield 56, 0), (.aload_n 0, 0), (.aload_n 0, 0), (.getfield 20, 0), (.iload_n 2, 0), (.iconst 2, 2), (.iadd, 0)] (pc' := 77) (lv' := [(2, .int w2_1), (0, .ref 93), (1, .ref 56)]) (st' := [.int (w2_1 + (2 : Int32)), .ref 96, .ref 93]) (σ' := (fhI (fhI (fhI (fhI σ 93 4 ((σ.1 93 4) - (1 : Int32))) 93 3 (fhrem (((σ.1 93 3) + (20 : Int32)) - (1 : Int32)) (20 : Int32))) 56 9 (fcG (fhI (fhI σ 93 4 ((σ.1 93 4) - (1 : Int32))) 93 3 (fhrem (((σ.1 93 3) + (20 : Int32)) - (1 : Int32)) (20 : Int32))) 96 w2_1)) 56 10 (fcG (fhI (fhI (fhI σ 93 4 ((σ.1 93 4) - (1 : Int32))) 93 3 (fhrem (((σ.1 93 3) + (20 : Int32)) - (1 : Int32)) (20 : Int32))) 56 9 (fcG (fhI (fhI σ 93 4 ((σ.1 93 4) - (1 : Int32))) 93 3 (fhrem (((σ.1 93 3) + (20 : Int32)) - (1 : Int32)) (20 : Int32))) 96 w2_1)) 96 (w2_1 + (1 : Int32))))) (by decide +kernel) rfl rfl rfl ?_
    refine fhW.callv hΓ mvX2_get ml_6_47 (t := 96) (ci := 2) (av := [.int (w2_1 + (2 : Int32))]) (rest := [.ref 93]) (r := (some (.int (fcG (fhI (fhI (fhI (fhI σ 93 4 ((σ.1 93 4) - (1 : Int32))) 93 3 (fhrem (((σ.1 93 3) + (20 : Int32)) - (1 : Int32)) (20 : Int32))) 56 9 (fcG (fhI (fhI σ 93 4 ((σ.1 93 4) - (1 : Int32))) 93 3 (fhrem (((σ.1 93 3) + (20 : Int32)) - (1 : Int32)) (20 : Int32))) 96 w2_1)) 56 10 (fcG (fhI (fhI (fhI σ 93 4 ((σ.1 93 4) - (1 : Int32))) 93 3 (fhrem (((σ.1 93 3) + (20 : Int32)) - (1 : Int32)) (20 : Int32))) 56 9 (fcG (fhI (fhI σ 93 4 ((σ.1 93 4) - (1 : Int32))) 93 3 (fhrem (((σ.1 93 3) + (20 : Int32)) - (1 : Int32)) (20 : Int32))) 96 w2_1)) 96 (w2_1 + (1 : Int32)))) 96 (w2_1 + (2 : Int32)))))) (σ' := (fhI (fhI (fhI (fhI σ 93 4 ((σ.1 93 4) - (1 : Int32))) 93 3 (fhrem (((σ.1 93 3) + (20 : Int32)) - (1 : Int32)) (20 : Int32))) 56 9 (fcG (fhI (fhI σ 93 4 ((σ.1 93 4) - (1 : Int32))) 93 3 (fhrem (((σ.1 93 3) + (20 : Int32)) - (1 : Int32)) (20 : Int32))) 96 w2_1)) 56 10 (fcG (fhI (fhI (fhI σ 93 4 ((σ.1 93 4) - (1 : Int32))) 93 3 (fhrem (((σ.1 93 3) + (20 : Int32)) - (1 : Int32)) (20 : Int32))) 56 9 (fcG (fhI (fhI σ 93 4 ((σ.1 93 4) - (1 : Int32))) 93 3 (fhrem (((σ.1 93 3) + (20 : Int32)) - (1 : Int32)) (20 : Int32))) 96 w2_1)) 96 (w2_1 + (1 : Int32))))) (T_X2_get (E := fhEn Γ) (d := fhD Γ - 1) hE (by omega) 96 (w2_1 + (2 : Int32)) rfl (fhI (fhI (fhI (fhI σ 93 4 ((σ.1 93 4) - (1 : Int32))) 93 3 (fhrem (((σ.1 93 3) + (20 : Int32)) - (1 : Int32)) (20 : Int32))) 56 9 (fcG (fhI (fhI σ 93 4 ((σ.1 93 4) - (1 : Int32))) 93 3 (fhrem (((σ.1 93 3) + (20 : Int32)) - (1 : Int32)) (20 : Int32))) 96 w2_1)) 56 10 (fcG (fhI (fhI (fhI σ 93 4 ((σ.1 93 4) - (1 : Int32))) 93 3 (fhrem (((σ.1 93 3) + (20 : Int32)) - (1 : Int32)) (20 : Int32))) 56 9 (fcG (fhI (fhI σ 93 4 ((σ.1 93 4) - (1 : Int32))) 93 3 (fhrem (((σ.1 93 3) + (20 : Int32)) - (1 : Int32)) (20 : Int32))) 96 w2_1)) 96 (w2_1 + (1 : Int32))))) (by omega) (by decide +kernel) rfl rfl rfl (Nat.le_of_ble_eq_true rfl) rfl ?_
    show fhW fhYF Γ 80 [(2, .int w2_1), (0, .ref 93), (1, .ref 56)] [.int (fcG (fhI (fhI (fhI (fhI σ 93 4 ((σ.1 93 4) - (1 : Int32))) 93 3 (fhrem (((σ.1 93 3) + (20 : Int32)) - (1 : Int32)) (20 : Int32))) 56 9 (fcG (fhI (fhI σ 93 4 ((σ.1 93 4) - (1 : Int32))) 93 3 (fhrem (((σ.1 93 3) + (20 : Int32)) - (1 : Int32)) (20 : Int32))) 96 w2_1)) 56 10 (fcG (fhI (fhI (fhI σ 93 4 ((σ.1 93 4) - (1 : Int32))) 93 3 (fhrem (((σ.1 93 3) + (20 : Int32)) - (1 : Int32)) (20 : Int32))) 56 9 (fcG (fhI (fhI σ 93 4 ((σ.1 93 4) - (1 : Int32))) 93 3 (fhrem (((σ.1 93 3) + (20 : Int32)) - (1 : Int32)) (20 : Int32))) 96 w2_1)) 96 (w2_1 + (1 : Int32)))) 96 (w2_1 + (2 : Int32))), .ref 93] (fhI (fhI (fhI (fhI σ 93 4 ((σ.1 93 4) - (1 : Int32))) 93 3 (fhrem (((σ.1 93 3) + (20 : Int32)) - (1 : Int32)) (20 : Int32))) 56 9 (fcG (fhI (fhI σ 93 4 ((σ.1 93 4) - (1 : Int32))) 93 3 (fhrem (((σ.1 93 3) + (20 : Int32)) - (1 : Int32)) (20 : Int32))) 96 w2_1)) 56 10 (fcG (fhI (fhI (fhI σ 93 4 ((σ.1 93 4) - (1 : Int32))) 93 3 (fhrem (((σ.1 93 3) + (20 : Int32)) - (1 : Int32)) (20 : Int32))) 56 9 (fcG (fhI (fhI σ 93 4 ((σ.1 93 4) - (1 : Int32))) 93 3 (fhrem (((σ.1 93 3) + (20 : Int32)) - (1 : Int32)) (20 : Int32))) 96 w2_1)) 96 (w2_1 + (1 : Int32))))
    refine fhW.blk fhPF fhLL hΓ [(.putfield 23, 0), (.aload_n 1, 0), (.iconst 0, 0), (.putfield 59, 0), (.iconst 0, 0), (.istore_n 3, 0)] (pc' := 90) (lv' := [(3, .int (0 : Int32)), (2, .int w2_1), (0, .ref 93), (1, .ref 56)]) (st' := []) (σ' := (fhI (fhI (fhI (fhI (fhI (fhI σ 93 4 ((σ.1 93 4) - (1 : Int32))) 93 3 (fhrem (((σ.1 93 3) + (20 : Int32)) - (1 : Int32)) (20 : Int32))) 56 9 (fcG (fhI (fhI σ 93 4 ((σ.1 93 4) - (1 : Int32))) 93 3 (fhrem (((σ.1 93 3) + (20 : Int32)) - (1 : Int32)) (20 : Int32))) 96 w2_1)) 56 10 (fcG (fhI (fhI (fhI σ 93 4 ((σ.1 93 4) - (1 : Int32))) 93 3 (fhrem (((σ.1 93 3) + (20 : Int32)) - (1 : Int32)) (20 : Int32))) 56 9 (fcG (fhI (fhI σ 93 4 ((σ.1 93 4) - (1 : Int32))) 93 3 (fhrem (((σ.1 93 3) + (20 : Int32)) - (1 : Int32)) (20 : Int32))) 96 w2_1)) 96 (w2_1 + (1 : Int32)))) 93 1 (fcG (fhI (fhI (fhI (fhI σ 93 4 ((σ.1 93 4) - (1 : Int32))) 93 3 (fhrem (((σ.1 93 3) + (20 : Int32)) - (1 : Int32)) (20 : Int32))) 56 9 (fcG (fhI (fhI σ 93 4 ((σ.1 93 4) - (1 : Int32))) 93 3 (fhrem (((σ.1 93 3) + (20 : Int32)) - (1 : Int32)) (20 : Int32))) 96 w2_1)) 56 10 (fcG (fhI (fhI (fhI σ 93 4 ((σ.1 93 4) - (1 : Int32))) 93 3 (fhrem (((σ.1 93 3) + (20 : Int32)) - (1 : Int32)) (20 : Int32))) 56 9 (fcG (fhI (fhI σ 93 4 ((σ.1 93 4) - (1 : Int32))) 93 3 (fhrem (((σ.1 93 3) + (20 : Int32)) - (1 : Int32)) (20 : Int32))) 96 w2_1)) 96 (w2_1 + (1 : Int32)))) 96 (w2_1 + (2 : Int32)))) 56 8 (0 : Int32))) (by decide +kernel) rfl rfl rfl ?_
    refine fhW.sub (lv' := [(0, .ref 93), (1, .ref 56), (2, .int w2_1), (3, .int (0 : Int32))]) [2, 3, 1, 0] rfl ?_
    exact fhlp_ok (W := (fun x => fhW fhYF Γ 90 [(0, .ref 93), (1, .ref 56), (2, .int w2_1), (3, .int x.1)] [] x.2)) (B := (fun o => fhRet Γ (some (.int (fhb o.1))) o.2)) (fun x o h hk => L_X6_restore_90 hE hΓ hd w2_1 x.1 x.2 o h hk) ((0 : Int32), (fhI (fhI (fhI (fhI (fhI (fhI σ 93 4 ((σ.1 93 4) - (1 : Int32))) 93 3 (fhrem (((σ.1 93 3) + (20 : Int32)) - (1 : Int32)) (20 : Int32))) 56 9 (fcG (fhI (fhI σ 93 4 ((σ.1 93 4) - (1 : Int32))) 93 3 (fhrem (((σ.1 93 3) + (20 : Int32)) - (1 : Int32)) (20 : Int32))) 96 w2_1)) 56 10 (fcG (fhI (fhI (fhI σ 93 4 ((σ.1 93 4) - (1 : Int32))) 93 3 (fhrem (((σ.1 93 3) + (20 : Int32)) - (1 : Int32)) (20 : Int32))) 56 9 (fcG (fhI (fhI σ 93 4 ((σ.1 93 4) - (1 : Int32))) 93 3 (fhrem (((σ.1 93 3) + (20 : Int32)) - (1 : Int32)) (20 : Int32))) 96 w2_1)) 96 (w2_1 + (1 : Int32)))) 93 1 (fcG (fhI (fhI (fhI (fhI σ 93 4 ((σ.1 93 4) - (1 : Int32))) 93 3 (fhrem (((σ.1 93 3) + (20 : Int32)) - (1 : Int32)) (20 : Int32))) 56 9 (fcG (fhI (fhI σ 93 4 ((σ.1 93 4) - (1 : Int32))) 93 3 (fhrem (((σ.1 93 3) + (20 : Int32)) - (1 : Int32)) (20 : Int32))) 96 w2_1)) 56 10 (fcG (fhI (fhI (fhI σ 93 4 ((σ.1 93 4) - (1 : Int32))) 93 3 (fhrem (((σ.1 93 3) + (20 : Int32)) - (1 : Int32)) (20 : Int32))) 56 9 (fcG (fhI (fhI σ 93 4 ((σ.1 93 4) - (1 : Int32))) 93 3 (fhrem (((σ.1 93 3) + (20 : Int32)) - (1 : Int32)) (20 : Int32))) 96 w2_1)) 96 (w2_1 + (1 : Int32)))) 96 (w2_1 + (2 : Int32)))) 56 8 (0 : Int32))) _ h hk
  · rw [if_pos hc] at h
    refine fhW.blk fhPF fhLL hΓ [(.iconst 0, 0)] (pc' := 8) (lv' := [(0, .ref 93), (1, .ref 56)]) (st' := [.int (0 : Int32)]) (σ' := σ) (by decide +kernel) rfl rfl rfl ?_
    have e9 := Option.some.inj h
    subst e9
    exact fhW.zret (v := false) hΓ (by decide +kernel) hk
set_option maxRecDepth 100000 in
theorem T_X6_restore {E : fhE} {d : Nat} (hE : fhEok fhYF E) (hd : 4 ≤ d)   (σ : fhM) {o : Bool × fhM} (h : f_X6_restore σ = some o) : fhC fhYF E d miX6_restore [.ref 93, .ref 56] σ (some (.int (fhb o.1))) o.2 := by
  refine fhC.of (y := yX6_restore) (cc := cX6_restore) (nL := 4) (ret := (some .boolean)) 6 rfl (by decide +kernel) (Nat.le_of_ble_eq_true rfl) ?_
  intro Γ hΓ hR hD hEn
  subst hD; subst hEn
  exact L_X6_restore_E hE hΓ hd   σ _ h hR
set_option maxRecDepth 100000 in
set_option maxHeartbeats 4000000 in
theorem L_X11_undo_E {Γ : fhX} (hE : fhEok fhYF (fhEn Γ)) (hΓ : fhOk fhYF 11 cX11_undo 1 (some .boolean) Γ) (hd : 5 ≤ fhD Γ)   (σ : fhM) (o : Bool × fhM) (h : f_X11_undo σ = some o) (hk : (fun o => fhRet Γ (some (.int (fhb o.1))) o.2) o) : fhW fhYF Γ 0 [(0, .ref 0)] [] σ := by
  unfold f_X11_undo at h
  refine fhW.blk fhPF fhLL hΓ [(.aload_n 0, 0), (.getfield 86, 0), (.aload_n 0, 0), (.getfield 72, 0)] (pc' := 8) (lv' := [(0, .ref 0)]) (st' := [.ref 56, .ref 93]) (σ' := σ) (by decide +kernel) rfl rfl rfl ?_
  obtain ⟨q1, hb1, h⟩ := Option.bind_eq_some_iff.mp h
  refine fhW.callv hΓ mvX6_restore ml_11_361 (t := 93) (ci := 6) (av := [.ref 56]) (rest := []) (r := (some (.int (fhb q1.1)))) (σ' := q1.2) (T_X6_restore (E := fhEn Γ) (d := fhD Γ - 1) hE (by omega) σ hb1) (by omega) (by decide +kernel) rfl rfl rfl (Nat.le_of_ble_eq_true rfl) rfl ?_
  show fhW fhYF Γ 11 [(0, .ref 0)] [.int (fhb q1.1)] q1.2
  refine fhW.b_ne hΓ (tgt := 22) (show fhbk _ _ (.ifCond .ne (11)) _ = true by decide +kernel) (fun hc => ?_) (fun hc => ?_)
  · rw [if_pos hc] at h
    refine fhW.blk fhPF fhLL hΓ [(.iconst 1, 1)] (pc' := 23) (lv' := [(0, .ref 0)]) (st' := [.int (1 : Int32)]) (σ' := q1.2) (by decide +kernel) rfl rfl rfl ?_
    have e9 := Option.some.inj h
    subst e9
    exact fhW.zret (v := true) hΓ (by decide +kernel) hk
  · rw [if_neg hc] at h
    refine fhW.blk fhPF fhLL hΓ [(.aload_n 0, 0), (.iconst 4, 4)] (pc' := 16) (lv' := [(0, .ref 0)]) (st' := [.int (4 : Int32), .ref 0]) (σ' := q1.2) (by decide +kernel) rfl rfl rfl ?_
    refine fhW.callv hΓ mvX11_refuse ml_11_106 (t := 0) (ci := 11) (av := [.int (4 : Int32)]) (rest := []) (r := (some (.int (f_X11_refuse (4 : Int32) q1.2).1))) (σ' := (f_X11_refuse (4 : Int32) q1.2).2) (T_X11_refuse (E := fhEn Γ) (d := fhD Γ - 1) hE (by omega) (4 : Int32) q1.2) (by omega) (by decide +kernel) rfl rfl rfl (Nat.le_of_ble_eq_true rfl) rfl ?_
    show fhW fhYF Γ 19 [(0, .ref 0)] [.int (f_X11_refuse (4 : Int32) q1.2).1] (f_X11_refuse (4 : Int32) q1.2).2
    obtain ⟨q2, e1, h⟩ := fhlet_elim h
    rw [← e1]
    refine fhW.blk fhPF fhLL hΓ [(.pop, 0), (.iconst 0, 0)] (pc' := 21) (lv' := [(0, .ref 0)]) (st' := [.int (0 : Int32)]) (σ' := q2.2) (by decide +kernel) rfl rfl rfl ?_
    have e9 := Option.some.inj h
    subst e9
    exact fhW.zret (v := false) hΓ (by decide +kernel) hk
set_option maxRecDepth 100000 in
theorem T_X11_undo {E : fhE} {d : Nat} (hE : fhEok fhYF E) (hd : 5 ≤ d)   (σ : fhM) {o : Bool × fhM} (h : f_X11_undo σ = some o) : fhC fhYF E d miX11_undo [.ref 0] σ (some (.int (fhb o.1))) o.2 := by
  refine fhC.of (y := yX11_undo) (cc := cX11_undo) (nL := 1) (ret := (some .boolean)) 11 rfl (by decide +kernel) (Nat.le_of_ble_eq_true rfl) ?_
  intro Γ hΓ hR hD hEn
  subst hD; subst hEn
  exact L_X11_undo_E hE hΓ hd   σ _ h hR
set_option maxRecDepth 100000 in
set_option maxHeartbeats 4000000 in
theorem L_X11_seed_E {Γ : fhX} (hE : fhEok fhYF (fhEn Γ)) (hΓ : fhOk fhYF 11 cX11_seed 2 (some .boolean) Γ) (hd : 2 ≤ fhD Γ) (v1 : Int32)  (σ : fhM) (o : Bool × fhM) (h : f_X11_seed v1 σ = o) (hk : (fun o => fhRet Γ (some (.int (fhb o.1))) o.2) o) : fhW fhYF Γ 0 [(0, .ref 0), (1, .int v1)] [] σ := by
  unfold f_X11_seed at h
  refine fhW.blk fhPF fhLL hΓ [(.iload_n 1, 0)] (pc' := 1) (lv' := [(0, .ref 0), (1, .int v1)]) (st' := [.int v1]) (σ' := σ) (by decide +kernel) rfl rfl rfl ?_
  refine fhW.z_ge hΓ (tgt := 12) (show fhbk _ _ (.ifCond .ge (11)) _ = true by decide +kernel) (fun hc => ?_) (fun hc => ?_)
  · rw [if_pos hc] at h
    refine fhW.blk fhPF fhLL hΓ [(.aload_n 0, 0), (.iload_n 1, 0), (.putfield 96, 0), (.iconst 1, 1)] (pc' := 18) (lv' := [(0, .ref 0), (1, .int v1)]) (st' := [.int (1 : Int32)]) (σ' := (fhI σ 0 16 v1)) (by decide +kernel) rfl rfl rfl ?_
    subst h
    exact fhW.zret (v := true) hΓ (by decide +kernel) hk
  · rw [if_neg hc] at h
    refine fhW.blk fhPF fhLL hΓ [(.aload_n 0, 0), (.iconst 5, 5)] (pc' := 6) (lv' := [(0, .ref 0), (1, .int v1)]) (st' := [.int (5 : Int32), .ref 0]) (σ' := σ) (by decide +kernel) rfl rfl rfl ?_
    refine fhW.callv hΓ mvX11_refuse ml_11_106 (t := 0) (ci := 11) (av := [.int (5 : Int32)]) (rest := []) (r := (some (.int (f_X11_refuse (5 : Int32) σ).1))) (σ' := (f_X11_refuse (5 : Int32) σ).2) (T_X11_refuse (E := fhEn Γ) (d := fhD Γ - 1) hE (by omega) (5 : Int32) σ) (by omega) (by decide +kernel) rfl rfl rfl (Nat.le_of_ble_eq_true rfl) rfl ?_
    show fhW fhYF Γ 9 [(0, .ref 0), (1, .int v1)] [.int (f_X11_refuse (5 : Int32) σ).1] (f_X11_refuse (5 : Int32) σ).2
    obtain ⟨q1, e1, h⟩ := fhlet_elim h
    rw [← e1]
    refine fhW.blk fhPF fhLL hΓ [(.pop, 0), (.iconst 0, 0)] (pc' := 11) (lv' := [(0, .ref 0), (1, .int v1)]) (st' := [.int (0 : Int32)]) (σ' := q1.2) (by decide +kernel) rfl rfl rfl ?_
    subst h
    exact fhW.zret (v := false) hΓ (by decide +kernel) hk
set_option maxRecDepth 100000 in
theorem T_X11_seed {E : fhE} {d : Nat} (hE : fhEok fhYF E) (hd : 2 ≤ d) (v1 : Int32)  (σ : fhM) : fhC fhYF E d miX11_seed [.ref 0, .int v1] σ (some (.int (fhb (f_X11_seed v1 σ).1))) (f_X11_seed v1 σ).2 := by
  refine fhC.of (y := yX11_seed) (cc := cX11_seed) (nL := 2) (ret := (some .boolean)) 11 rfl (by decide +kernel) (Nat.le_of_ble_eq_true rfl) ?_
  intro Γ hΓ hR hD hEn
  subst hD; subst hEn
  exact L_X11_seed_E hE hΓ hd v1  σ _ rfl hR

