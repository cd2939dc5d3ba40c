set_option maxRecDepth 100000 in
set_option maxHeartbeats 4000000 in
theorem L_X6_write_E {Γ : fhX} (hE : fhEok fhYF (fhEn Γ)) (hΓ : fhOk fhYF 6 cX6_write 6 none Γ) (hd : 1 ≤ fhD Γ) (v1 : Int32) (v2 : Int32) (v3 : Int32) (v4 : Int32)  (σ : fhM) (o : fhM) (h : f_X6_write v1 v2 v3 v4 σ = o) (hk : (fun o => fhRet Γ none o) o) : fhW fhYF Γ 0 [(0, .ref 93), (1, .int v1), (2, .int v2), (3, .int v3), (4, .int v4)] [] σ := by
  unfold f_X6_write at h
  refine fhW.blk fhPF fhLL hΓ [(.iconst 4, 4), (.aload_n 0, 0), (.getfield 23, 0), (.sipush 511, 511), (.iand, 0), (.imul, 0), (.istore 5, 0), (.aload_n 0, 0), (.getfield 16, 0), (.iload 5, 0), (.iload_n 1, 0)] (pc' := 19) (lv' := [(5, .int ((4 : Int32) * ((σ.1 93 1) &&& (511 : Int32)))), (0, .ref 93), (1, .int v1), (2, .int v2), (3, .int v3), (4, .int v4)]) (st' := [.int v1, .int ((4 : Int32) * ((σ.1 93 1) &&& (511 : Int32))), .ref 94]) (σ' := σ) (by decide +kernel) rfl rfl rfl ?_
  refine fhW.callv hΓ mvX2_put ml_6_33 (t := 94) (ci := 2) (av := [.int ((4 : Int32) * ((σ.1 93 1) &&& (511 : Int32))), .int v1]) (rest := []) (r := none) (σ' := (fcP σ 94 ((4 : Int32) * ((σ.1 93 1) &&& (511 : Int32))) v1)) (T_X2_put (E := fhEn Γ) (d := fhD Γ - 1) hE (by omega) 94 ((4 : Int32) * ((σ.1 93 1) &&& (511 : Int32))) v1 rfl σ) (by omega) (by decide +kernel) rfl rfl rfl (Nat.le_of_ble_eq_true rfl) rfl ?_
  show fhW fhYF Γ 22 [(5, .int ((4 : Int32) * ((σ.1 93 1) &&& (511 : Int32)))), (0, .ref 93), (1, .int v1), (2, .int v2), (3, .int v3), (4, .int v4)] [] (fcP σ 94 ((4 : Int32) * ((σ.1 93 1) &&& (511 : Int32))) v1)
  refine fhW.blk fhPF fhLL hΓ [(.aload_n 0, 0), (.getfield 16, 0), (.iload 5, 0), (.iconst 1, 1), (.iadd, 0), (.iload_n 2, 0)] (pc' := 31) (lv' := [(5, .int ((4 : Int32) * ((σ.1 93 1) &&& (511 : Int32)))), (0, .ref 93), (1, .int v1), (2, .int v2), (3, .int v3), (4, .int v4)]) (st' := [.int v2, .int (((4 : Int32) * ((σ.1 93 1) &&& (511 : Int32))) + (1 : Int32)), .ref 94]) (σ' := (fcP σ 94 ((4 : Int32) * ((σ.1 93 1) &&& (511 : Int32))) v1)) (by decide +kernel) rfl rfl rfl ?_
  refine fhW.callv hΓ mvX2_put ml_6_33 (t := 94) (ci := 2) (av := [.int (((4 : Int32) * ((σ.1 93 1) &&& (511 : Int32))) + (1 : Int32)), .int v2]) (rest := []) (r := none) (σ' := (fcP (fcP σ 94 ((4 : Int32) * ((σ.1 93 1) &&& (511 : Int32))) v1) 94 (((4 : Int32) * ((σ.1 93 1) &&& (511 : Int32))) + (1 : Int32)) v2)) (T_X2_put (E := fhEn Γ) (d := fhD Γ - 1) hE (by omega) 94 (((4 : Int32) * ((σ.1 93 1) &&& (511 : Int32))) + (1 : Int32)) v2 rfl (fcP σ 94 ((4 : Int32) * ((σ.1 93 1) &&& (511 : Int32))) v1)) (by omega) (by decide +kernel) rfl rfl rfl (Nat.le_of_ble_eq_true rfl) rfl ?_
  show fhW fhYF Γ 34 [(5, .int ((4 : Int32) * ((σ.1 93 1) &&& (511 : Int32)))), (0, .ref 93), (1, .int v1), (2, .int v2), (3, .int v3), (4, .int v4)] [] (fcP (fcP σ 94 ((4 : Int32) * ((σ.1 93 1) &&& (511 : Int32))) v1) 94 (((4 : Int32) * ((σ.1 93 1) &&& (511 : Int32))) + (1 : Int32)) v2)
  refine fhW.blk fhPF fhLL hΓ [(.aload_n 0, 0), (.getfield 16, 0), (.iload 5, 0), (.iconst 2, 2), (.iadd, 0), (.iload_n 3, 0)] (pc' := 43) (lv' := [(5, .int ((4 : Int32) * ((σ.1 93 1) &&& (511 : Int32)))), (0, .ref 93), (1, .int v1), (2, .int v2), (3, .int v3), (4, .int v4)]) (st' := [.int v3, .int (((4 : Int32) * ((σ.1 93 1) &&& (511 : Int32))) + (2 : Int32)), .ref 94]) (σ' := (fcP (fcP σ 94 ((4 : Int32) * ((σ.1 93 1) &&& (511 : Int32))) v1) 94 (((4 : Int32) * ((σ.1 93 1) &&& (511 : Int32))) + (1 : Int32)) v2)) (by decide +kernel) rfl rfl rfl ?_
  refine fhW.callv hΓ mvX2_put ml_6_33 (t := 94) (ci := 2) (av := [.int (((4 : Int32) * ((σ.1 93 1) &&& (511 : Int32))) + (2 : Int32)), .int v3]) (rest := []) (r := none) (σ' := (fcP (fcP (fcP σ 94 ((4 : Int32) * ((σ.1 93 1) &&& (511 : Int32))) v1) 94 (((4 : Int32) * ((σ.1 93 1) &&& (511 : Int32))) + (1 : Int32)) v2) 94 (((4 : Int32) * ((σ.1 93 1) &&& (511 : Int32))) + (2 : Int32)) v3)) (T_X2_put (E := fhEn Γ) (d := fhD Γ - 1) hE (by omega) 94 (((4 : Int32) * ((σ.1 93 1) &&& (511 : Int32))) + (2 : Int32)) v3 rfl (fcP (fcP σ 94 ((4 : Int32) * ((σ.1 93 1) &&& (511 : Int32))) v1) 94 (((4 : Int32) * ((σ.1 93 1) &&& (511 : Int32))) + (1 : Int32)) v2)) (by omega) (by decide +kernel) rfl rfl rfl (Nat.le_of_ble_eq_true rfl) rfl ?_
  show fhW fhYF Γ 46 [(5, .int ((4 : Int32) * ((σ.1 93 1) &&& (511 : Int32)))), (0, .ref 93), (1, .int v1), (2, .int v2), (3, .int v3), (4, .int v4)] [] (fcP (fcP (fcP σ 94 ((4 : Int32) * ((σ.1 93 1) &&& (511 : Int32))) v1) 94 (((4 : Int32) * ((σ.1 93 1) &&& (511 : Int32))) + (1 : Int32)) v2) 94 (((4 : Int32) * ((σ.1 93 1) &&& (511 : Int32))) + (2 : Int32)) v3)
  refine fhW.blk fhPF fhLL hΓ [(.aload_n 0, 0), (.getfield 16, 0), (.iload 5, 0), (.iconst 3, 3), (.iadd, 0), (.iload 4, 0)] (pc' := 56) (lv' := [(5, .int ((4 : Int32) * ((σ.1 93 1) &&& (511 : Int32)))), (0, .ref 93), (1, .int v1), (2, .int v2), (3, .int v3), (4, .int v4)]) (st' := [.int v4, .int (((4 : Int32) * ((σ.1 93 1) &&& (511 : Int32))) + (3 : Int32)), .ref 94]) (σ' := (fcP (fcP (fcP σ 94 ((4 : Int32) * ((σ.1 93 1) &&& (511 : Int32))) v1) 94 (((4 : Int32) * ((σ.1 93 1) &&& (511 : Int32))) + (1 : Int32)) v2) 94 (((4 : Int32) * ((σ.1 93 1) &&& (511 : Int32))) + (2 : Int32)) v3)) (by decide +kernel) rfl rfl rfl ?_
  refine fhW.callv hΓ mvX2_put ml_6_33 (t := 94) (ci := 2) (av := [.int (((4 : Int32) * ((σ.1 93 1) &&& (511 : Int32))) + (3 : Int32)), .int v4]) (rest := []) (r := none) (σ' := (fcP (fcP (fcP (fcP σ 94 ((4 : Int32) * ((σ.1 93 1) &&& (511 : Int32))) v1) 94 (((4 : Int32) * ((σ.1 93 1) &&& (511 : Int32))) + (1 : Int32)) v2) 94 (((4 : Int32) * ((σ.1 93 1) &&& (511 : Int32))) + (2 : Int32)) v3) 94 (((4 : Int32) * ((σ.1 93 1) &&& (511 : Int32))) + (3 : Int32)) v4)) (T_X2_put (E := fhEn Γ) (d := fhD Γ - 1) hE (by omega) 94 (((4 : Int32) * ((σ.1 93 1) &&& (511 : Int32))) + (3 : Int32)) v4 rfl (fcP (fcP (fcP σ 94 ((4 : Int32) * ((σ.1 93 1) &&& (511 : Int32))) v1) 94 (((4 : Int32) * ((σ.1 93 1) &&& (511 : Int32))) + (1 : Int32)) v2) 94 (((4 : Int32) * ((σ.1 93 1) &&& (511 : Int32))) + (2 : Int32)) v3)) (by omega) (by decide +kernel) rfl rfl rfl (Nat.le_of_ble_eq_true rfl) rfl ?_
  show fhW fhYF Γ 59 [(5, .int ((4 : Int32) * ((σ.1 93 1) &&& (511 : Int32)))), (0, .ref 93), (1, .int v1), (2, .int v2), (3, .int v3), (4, .int v4)] [] (fcP (fcP (fcP (fcP σ 94 ((4 : Int32) * ((σ.1 93 1) &&& (511 : Int32))) v1) 94 (((4 : Int32) * ((σ.1 93 1) &&& (511 : Int32))) + (1 : Int32)) v2) 94 (((4 : Int32) * ((σ.1 93 1) &&& (511 : Int32))) + (2 : Int32)) v3) 94 (((4 : Int32) * ((σ.1 93 1) &&& (511 : Int32))) + (3 : Int32)) v4)
  refine fhW.blk fhPF fhLL hΓ [(.aload_n 0, 0), (.dup, 0), (.getfield 23, 0), (.iconst 1, 1), (.iadd, 0), (.putfield 23, 0)] (pc' := 69) (lv' := [(5, .int ((4 : Int32) * ((σ.1 93 1) &&& (511 : Int32)))), (0, .ref 93), (1, .int v1), (2, .int v2), (3, .int v3), (4, .int v4)]) (st' := []) (σ' := (fhI (fcP (fcP (fcP (fcP σ 94 ((4 : Int32) * ((σ.1 93 1) &&& (511 : Int32))) v1) 94 (((4 : Int32) * ((σ.1 93 1) &&& (511 : Int32))) + (1 : Int32)) v2) 94 (((4 : Int32) * ((σ.1 93 1) &&& (511 : Int32))) + (2 : Int32)) v3) 94 (((4 : Int32) * ((σ.1 93 1) &&& (511 : Int32))) + (3 : Int32)) v4) 93 1 ((σ.1 93 1) + (1 : Int32)))) (by decide +kernel) rfl rfl rfl ?_
  subst h
  exact fhW.vret hΓ (by decide +kernel) hk
set_option maxRecDepth 100000 in
theorem T_X6_write {E : fhE} {d : Nat} (hE : fhEok fhYF E) (hd : 1 ≤ d) (v1 : Int32) (v2 : Int32) (v3 : Int32) (v4 : Int32)  (σ : fhM) : fhC fhYF E d miX6_write [.ref 93, .int v1, .int v2, .int v3, .int v4] σ none (f_X6_write v1 v2 v3 v4 σ) := by
  refine fhC.of (y := yX6_write) (cc := cX6_write) (nL := 6) (ret := none) 6 rfl (by decide +kernel) (Nat.le_of_ble_eq_true rfl) ?_
  intro Γ hΓ hR hD hEn
  subst hD; subst hEn
  exact L_X6_write_E hE hΓ hd v1 v2 v3 v4  σ _ rfl hR
set_option maxRecDepth 100000 in
set_option maxHeartbeats 4000000 in
theorem L_X11_playRound_28 {Γ : fhX} (hE : fhEok fhYF (fhEn Γ)) (hΓ : fhOk fhYF 11 cX11_playRound 5 (some .int) Γ) (hd : 5 ≤ fhD Γ) (s0 : Int32)  (σ : fhM) (o : Int32 × fhM) (h : f_X11_playRound_28 s0 σ = some o) (hk : (fun o => fhRet Γ (some (.int o.1)) o.2) o) : fhW fhYF Γ 28 [(0, .ref 0)] [.int s0] σ := by
  unfold f_X11_playRound_28 at h
  refine fhW.blk fhPF fhLL hΓ [(.istore_n 3, 0), (.aload_n 0, 0), (.getfield 72, 0)] (pc' := 33) (lv' := [(3, .int s0), (0, .ref 0)]) (st' := [.ref 56]) (σ' := σ) (by decide +kernel) rfl rfl rfl ?_
  refine fhW.callv hΓ mvX4_knowers ml_11_195 (t := 56) (ci := 4) (av := []) (rest := []) (r := (some (.int (f_X4_knowers σ)))) (σ' := σ) (T_X4_knowers (E := fhEn Γ) (d := fhD Γ - 1) hE (by omega) σ) (by omega) (by decide +kernel) rfl rfl rfl (Nat.le_of_ble_eq_true rfl) rfl ?_
  show fhW fhYF Γ 36 [(3, .int s0), (0, .ref 0)] [.int (f_X4_knowers σ)] σ
  refine fhW.blk fhPF fhLL hΓ [(.iload_n 3, 0), (.iand, 0), (.istore 4, 0), (.aload_n 0, 0), (.getfield 72, 0), (.aload_n 0, 0), (.getfield 72, 0), (.getfield 293, 0), (.iload_n 3, 0)] (pc' := 52) (lv' := [(4, .int ((f_X4_knowers σ) &&& s0)), (3, .int s0), (0, .ref 0)]) (st' := [.int s0, .ref 74, .ref 56]) (σ' := σ) (by decide +kernel) rfl rfl rfl ?_
  obtain ⟨q1, hb1, h⟩ := Option.bind_eq_some_iff.mp h
  refine fhW.callv hΓ mvX4_keepAlike ml_11_336 (t := 56) (ci := 4) (av := [.ref 74, .int s0]) (rest := []) (r := none) (σ' := q1) (T_X4_keepAlike (E := fhEn Γ) (d := fhD Γ - 1) hE (by omega) 74 s0 rfl σ hb1) (by omega) (by decide +kernel) rfl rfl rfl (Nat.le_of_ble_eq_true rfl) rfl ?_
  show fhW fhYF Γ 55 [(4, .int ((f_X4_knowers σ) &&& s0)), (3, .int s0), (0, .ref 0)] [] q1
  refine fhW.blk fhPF fhLL hΓ [(.aload_n 0, 0), (.getfield 72, 0), (.dup, 0), (.getfield 186, 0), (.iconst 1, 1), (.iadd, 0), (.putfield 186, 0), (.aload_n 0, 0), (.getfield 86, 0), (.iconst 0, 0), (.iconst 0, 0), (.iload 4, 0), (.aload_n 0, 0), (.getfield 72, 0), (.getfield 189, 0)] (pc' := 83) (lv' := [(4, .int ((f_X4_knowers σ) &&& s0)), (3, .int s0), (0, .ref 0)]) (st' := [.int (q1.1 56 8), .int ((f_X4_knowers σ) &&& s0), .int (0 : Int32), .int (0 : Int32), .ref 93]) (σ' := (fhI q1 56 10 ((q1.1 56 10) + (1 : Int32)))) (by decide +kernel) rfl rfl rfl ?_
  refine fhW.callv hΓ mvX6_write ml_11_339 (t := 93) (ci := 6) (av := [.int (0 : Int32), .int (0 : Int32), .int ((f_X4_knowers σ) &&& s0), .int (q1.1 56 8)]) (rest := []) (r := none) (σ' := (f_X6_write (0 : Int32) (0 : Int32) ((f_X4_knowers σ) &&& s0) (q1.1 56 8) (fhI q1 56 10 ((q1.1 56 10) + (1 : Int32))))) (T_X6_write (E := fhEn Γ) (d := fhD Γ - 1) hE (by omega) (0 : Int32) (0 : Int32) ((f_X4_knowers σ) &&& s0) (q1.1 56 8) (fhI q1 56 10 ((q1.1 56 10) + (1 : Int32)))) (by omega) (by decide +kernel) rfl rfl rfl (Nat.le_of_ble_eq_true rfl) rfl ?_
  show fhW fhYF Γ 86 [(4, .int ((f_X4_knowers σ) &&& s0)), (3, .int s0), (0, .ref 0)] [] (f_X6_write (0 : Int32) (0 : Int32) ((f_X4_knowers σ) &&& s0) (q1.1 56 8) (fhI q1 56 10 ((q1.1 56 10) + (1 : Int32))))
  obtain ⟨q2, e1, h⟩ := fhlet_elim h
  rw [← e1]
  refine fhW.blk fhPF fhLL hΓ [(.iload 4, 0)] (pc' := 88) (lv' := [(4, .int ((f_X4_knowers σ) &&& s0)), (3, .int s0), (0, .ref 0)]) (st' := [.int ((f_X4_knowers σ) &&& s0)]) (σ' := q2) (by decide +kernel) rfl rfl rfl ?_
  have e9 := Option.some.inj h
  subst e9
  exact fhW.iret hΓ (by decide +kernel) hk
set_option maxRecDepth 100000 in
set_option maxHeartbeats 4000000 in
theorem L_X11_playRound_E {Γ : fhX} (hE : fhEok fhYF (fhEn Γ)) (hΓ : fhOk fhYF 11 cX11_playRound 5 (some .int) Γ) (hd : 5 ≤ fhD Γ) (v1 : Int32)  (σ : fhM) (o : Int32 × fhM) (h : f_X11_playRound v1 σ = some o) (hk : (fun o => fhRet Γ (some (.int o.1)) o.2) o) : fhW fhYF Γ 0 [(0, .ref 0), (1, .int v1)] [] σ := by
  unfold f_X11_playRound at h
  refine fhW.blk fhPF fhLL hΓ [(.iconst 1, 1), (.aload_n 0, 0), (.getfield 63, 0), (.getfield 177, 0), (.ishl, 0), (.iconst 1, 1), (.isub, 0), (.istore_n 2, 0)] (pc' := 12) (lv' := [(2, .int (((1 : Int32) <<< ((σ.1 39 9) &&& 31)) - (1 : Int32))), (0, .ref 0), (1, .int v1)]) (st' := []) (σ' := σ) (by decide +kernel) rfl rfl rfl ?_
  obtain ⟨w2_1, e2, h⟩ := fhlet_elim h
  rw [← e2]
  refine fhW.blk fhPF fhLL hΓ [(.iload_n 1, 0), (.iconst (-1), -1)] (pc' := 14) (lv' := [(2, .int w2_1), (0, .ref 0), (1, .int v1)]) (st' := [.int (-1 : Int32), .int v1]) (σ' := σ) (by decide +kernel) rfl rfl rfl ?_
  refine fhW.i_ne hΓ (tgt := 21) (show fhbk _ _ (.if_icmp .ne (7)) _ = true by decide +kernel) (fun hc => ?_) (fun hc => ?_)
  · simp only [if_neg hc] at h
    refine fhW.blk fhPF fhLL hΓ [(.iload_n 2, 0), (.iconst 1, 1), (.iload_n 1, 0), (.ishl, 0), (.iconst (-1), -1), (.ixor, 0), (.iand, 0)] (pc' := 28) (lv' := [(2, .int w2_1), (0, .ref 0), (1, .int v1)]) (st' := [.int (w2_1 &&& (((1 : Int32) <<< (v1 &&& 31)) ^^^ (-1 : Int32)))]) (σ' := σ) (by decide +kernel) rfl rfl rfl ?_
    refine fhW.sub (lv' := [(0, .ref 0)]) [1] rfl ?_
    exact L_X11_playRound_28 hE hΓ hd (w2_1 &&& (((1 : Int32) <<< (v1 &&& 31)) ^^^ (-1 : Int32))) σ _ h hk
  · simp only [if_pos hc] at h
    refine fhW.blk fhPF fhLL hΓ [(.iload_n 2, 0)] (pc' := 18) (lv' := [(2, .int w2_1), (0, .ref 0), (1, .int v1)]) (st' := [.int w2_1]) (σ' := σ) (by decide +kernel) rfl rfl rfl ?_
    refine fhW.goto hΓ (off := 10) (tgt := 28) (by decide +kernel) ?_
    refine fhW.sub (lv' := [(0, .ref 0)]) [1] rfl ?_
    exact L_X11_playRound_28 hE hΓ hd w2_1 σ _ h hk
set_option maxRecDepth 100000 in
theorem T_X11_playRound {E : fhE} {d : Nat} (hE : fhEok fhYF E) (hd : 5 ≤ d) (v1 : Int32)  (σ : fhM) {o : Int32 × fhM} (h : f_X11_playRound v1 σ = some o) : fhC fhYF E d miX11_playRound [.ref 0, .int v1] σ (some (.int o.1)) o.2 := by
  refine fhC.of (y := yX11_playRound) (cc := cX11_playRound) (nL := 5) (ret := (some .int)) 11 rfl (by decide +kernel) (Nat.le_of_ble_eq_true rfl) ?_
  intro Γ hΓ hR hD hEn
  subst hD; subst hEn
  exact L_X11_playRound_E hE hΓ hd v1  σ _ h hR
set_option maxRecDepth 100000 in
set_option maxHeartbeats 4000000 in
theorem L_X11_round_20 {Γ : fhX} (hE : fhEok fhYF (fhEn Γ)) (hΓ : fhOk fhYF 11 cX11_round 1 (some .int) Γ) (hd : 6 ≤ fhD Γ)   (σ : fhM) (o : Int32 × fhM) (h : f_X11_round_20 σ = some o) (hk : (fun o => fhRet Γ (some (.int o.1)) o.2) o) : fhW fhYF Γ 20 [(0, .ref 0)] [] σ := by
  unfold f_X11_round_20 at h
  refine fhW.blk fhPF fhLL hΓ [(.aload_n 0, 0), (.iconst 3, 3)] (pc' := 22) (lv' := [(0, .ref 0)]) (st' := [.int (3 : Int32), .ref 0]) (σ' := σ) (by decide +kernel) rfl rfl rfl ?_
  refine fhW.callv hΓ mvX11_refuse ml_11_106 (t := 0) (ci := 11) (av := [.int (3 : Int32)]) (rest := []) (r := (some (.int (f_X11_refuse (3 : Int32) σ).1))) (σ' := (f_X11_refuse (3 : Int32) σ).2) (T_X11_refuse (E := fhEn Γ) (d := fhD Γ - 1) hE (by omega) (3 : Int32) σ) (by omega) (by decide +kernel) rfl rfl rfl (Nat.le_of_ble_eq_true rfl) rfl ?_
  show fhW fhYF Γ 25 [(0, .ref 0)] [.int (f_X11_refuse (3 : Int32) σ).1] (f_X11_refuse (3 : Int32) σ).2
  obtain ⟨q3, e1, h⟩ := fhlet_elim h
  rw [← e1]
  have e9 := Option.some.inj h
  subst e9
  exact fhW.iret hΓ (by decide +kernel) hk
set_option maxRecDepth 100000 in
set_option maxHeartbeats 4000000 in
theorem L_X11_round_E {Γ : fhX} (hE : fhEok fhYF (fhEn Γ)) (hΓ : fhOk fhYF 11 cX11_round 1 (some .int) Γ) (hd : 6 ≤ fhD Γ)   (σ : fhM) (o : Int32 × fhM) (h : f_X11_round σ = some o) (hk : (fun o => fhRet Γ (some (.int o.1)) o.2) o) : fhW fhYF Γ 0 [(0, .ref 0)] [] σ := by
  unfold f_X11_round at h
  refine fhW.blk fhPF fhLL hΓ [(.aload_n 0, 0), (.getfield 145, 0)] (pc' := 4) (lv' := [(0, .ref 0)]) (st' := [.int (σ.1 0 8)]) (σ' := σ) (by decide +kernel) rfl rfl rfl ?_
  refine fhW.z_eq hΓ (tgt := 20) (show fhbk _ _ (.ifCond .eq (16)) _ = true by decide +kernel) (fun hc => ?_) (fun hc => ?_)
  · rw [if_pos hc] at h
    refine fhW.sub (lv' := [(0, .ref 0)]) [0] rfl ?_
    exact L_X11_round_20 hE hΓ hd σ _ h hk
  · rw [if_neg hc] at h
    refine fhW.blk fhPF fhLL hΓ [(.aload_n 0, 0), (.getfield 72, 0), (.getfield 186, 0), (.sipush 999, 999)] (pc' := 17) (lv' := [(0, .ref 0)]) (st' := [.int (999 : Int32), .int (σ.1 56 10)]) (σ' := σ) (by decide +kernel) rfl rfl rfl ?_
    refine fhW.i_lt hΓ (tgt := 26) (show fhbk _ _ (.if_icmp .lt (9)) _ = true by decide +kernel) (fun hc => ?_) (fun hc => ?_)
    · rw [if_pos hc] at h
      refine fhW.blk fhPF fhLL hΓ [(.aload_n 0, 0), (.getfield 86, 0), (.aload_n 0, 0), (.getfield 72, 0)] (pc' := 34) (lv' := [(0, .ref 0)]) (st' := [.ref 56, .ref 93]) (σ' := σ) (by decide +kernel) rfl rfl rfl ?_
      obtain ⟨q1, hb1, h⟩ := Option.bind_eq_some_iff.mp h
      refine fhW.callv hΓ mvX6_save ml_11_329 (t := 93) (ci := 6) (av := [.ref 56]) (rest := []) (r := none) (σ' := q1) (T_X6_save (E := fhEn Γ) (d := fhD Γ - 1) hE (by omega) σ hb1) (by omega) (by decide +kernel) rfl rfl rfl (Nat.le_of_ble_eq_true rfl) rfl ?_
      show fhW fhYF Γ 37 [(0, .ref 0)] [] q1
      refine fhW.blk fhPF fhLL hΓ [(.aload_n 0, 0), (.iconst (-1), -1)] (pc' := 39) (lv' := [(0, .ref 0)]) (st' := [.int (-1 : Int32), .ref 0]) (σ' := q1) (by decide +kernel) rfl rfl rfl ?_
      obtain ⟨q2, hb2, h⟩ := Option.bind_eq_some_iff.mp h
      refine fhW.callv hΓ mvX11_playRound ml_11_333 (t := 0) (ci := 11) (av := [.int (-1 : Int32)]) (rest := []) (r := (some (.int q2.1))) (σ' := q2.2) (T_X11_playRound (E := fhEn Γ) (d := fhD Γ - 1) hE (by omega) (-1 : Int32) q1 hb2) (by omega) (by decide +kernel) rfl rfl rfl (Nat.le_of_ble_eq_true rfl) rfl ?_
      show fhW fhYF Γ 42 [(0, .ref 0)] [.int q2.1] q2.2
      have e9 := Option.some.inj h
      subst e9
      exact fhW.iret hΓ (by decide +kernel) hk
    · rw [if_neg hc] at h
      refine fhW.sub (lv' := [(0, .ref 0)]) [0] rfl ?_
      exact L_X11_round_20 hE hΓ hd σ _ h hk
set_option maxRecDepth 100000 in
theorem T_X11_round {E : fhE} {d : Nat} (hE : fhEok fhYF E) (hd : 6 ≤ d)   (σ : fhM) {o : Int32 × fhM} (h : f_X11_round σ = some o) : fhC fhYF E d miX11_round [.ref 0] σ (some (.int o.1)) o.2 := by
  refine fhC.of (y := yX11_round) (cc := cX11_round) (nL := 1) (ret := (some .int)) 11 rfl (by decide +kernel) (Nat.le_of_ble_eq_true rfl) ?_
  intro Γ hΓ hR hD hEn
  subst hD; subst hEn
  exact L_X11_round_E hE hΓ hd   σ _ h hR
set_option maxRecDepth 100000 in
set_option maxHeartbeats 4000000 in
theorem L_X11_says_E {Γ : fhX} (hE : fhEok fhYF (fhEn Γ)) (hΓ : fhOk fhYF 11 cX11_says 3 (some .int) Γ) (hd : 5 ≤ fhD Γ) (v1 : Int32)  (σ : fhM) (o : Int32 × fhM) (h : f_X11_says v1 σ = some o) (hk : (fun o => fhRet Γ (some (.int o.1)) o.2) o) : fhW fhYF Γ 0 [(0, .ref 0), (1, .int v1)] [] σ := by
  unfold f_X11_says at h
  refine fhW.blk fhPF fhLL hΓ [(.aload_n 0, 0), (.iload_n 1, 0)] (pc' := 2) (lv' := [(0, .ref 0), (1, .int v1)]) (st' := [.int v1, .ref 0]) (σ' := σ) (by decide +kernel) rfl rfl rfl ?_
  refine fhW.callv hΓ mvX11_isGuest ml_11_212 (t := 0) (ci := 11) (av := [.int v1]) (rest := []) (r := (some (.int (fhb (f_X11_isGuest v1 σ))))) (σ' := σ) (T_X11_isGuest (E := fhEn Γ) (d := fhD Γ - 1) hE (by omega) v1 σ) (by omega) (by decide +kernel) rfl rfl rfl (Nat.le_of_ble_eq_true rfl) rfl ?_
  show fhW fhYF Γ 5 [(0, .ref 0), (1, .int v1)] [.int (fhb (f_X11_isGuest v1 σ))] σ
  refine fhW.b_ne hΓ (tgt := 14) (show fhbk _ _ (.ifCond .ne (9)) _ = true by decide +kernel) (fun hc => ?_) (fun hc => ?_)
  · rw [if_pos hc] at h
    refine fhW.blk fhPF fhLL hΓ [(.aload_n 0, 0), (.getfield 86, 0), (.aload_n 0, 0), (.getfield 72, 0)] (pc' := 22) (lv' := [(0, .ref 0), (1, .int v1)]) (st' := [.ref 56, .ref 93]) (σ' := σ) (by decide +kernel) rfl rfl rfl ?_
    obtain ⟨q1, hb1, h⟩ := Option.bind_eq_some_iff.mp h
    refine fhW.callv hΓ mvX6_save ml_11_329 (t := 93) (ci := 6) (av := [.ref 56]) (rest := []) (r := none) (σ' := q1) (T_X6_save (E := fhEn Γ) (d := fhD Γ - 1) hE (by omega) σ hb1) (by omega) (by decide +kernel) rfl rfl rfl (Nat.le_of_ble_eq_true rfl) rfl ?_
    show fhW fhYF Γ 25 [(0, .ref 0), (1, .int v1)] [] q1
    refine fhW.blk fhPF fhLL hΓ [(.aload_n 0, 0), (.getfield 72, 0), (.iload_n 1, 0)] (pc' := 30) (lv' := [(0, .ref 0), (1, .int v1)]) (st' := [.int v1, .ref 56]) (σ' := q1) (by decide +kernel) rfl rfl rfl ?_
    refine fhW.callv hΓ mvX4_isKnower ml_11_230 (t := 56) (ci := 4) (av := [.int v1]) (rest := []) (r := (some (.int (fhb (f_X4_isKnower v1 q1))))) (σ' := q1) (T_X4_isKnower (E := fhEn Γ) (d := fhD Γ - 1) hE (by omega) v1 q1) (by omega) (by decide +kernel) rfl rfl rfl (Nat.le_of_ble_eq_true rfl) rfl ?_
    show fhW fhYF Γ 33 [(0, .ref 0), (1, .int v1)] [.int (fhb (f_X4_isKnower v1 q1))] q1
    refine fhW.calls hΓ msX11_one ml_11_233 (av := [.int (fhb (f_X4_isKnower v1 q1))]) (rest := []) (r := (some (.int (f_X11_one (fhb (f_X4_isKnower v1 q1)) q1)))) (σ' := q1) (T_X11_one (E := fhEn Γ) (d := fhD Γ - 1) hE (by omega) (fhb (f_X4_isKnower v1 q1)) q1) (by omega) (by decide +kernel) rfl (Nat.le_of_ble_eq_true rfl) rfl ?_
    show fhW fhYF Γ 36 [(0, .ref 0), (1, .int v1)] [.int (f_X11_one (fhb (f_X4_isKnower v1 q1)) q1)] q1
    refine fhW.blk fhPF fhLL hΓ [(.istore_n 2, 0), (.aload_n 0, 0), (.getfield 72, 0), (.aload_n 0, 0), (.getfield 72, 0), (.getfield 293, 0), (.iconst 1, 1), (.iload_n 1, 0), (.ishl, 0)] (pc' := 51) (lv' := [(2, .int (f_X11_one (fhb (f_X4_isKnower v1 q1)) q1)), (0, .ref 0), (1, .int v1)]) (st' := [.int ((1 : Int32) <<< (v1 &&& 31)), .ref 74, .ref 56]) (σ' := q1) (by decide +kernel) rfl rfl rfl ?_
    obtain ⟨q2, hb2, h⟩ := Option.bind_eq_some_iff.mp h
    refine fhW.callv hΓ mvX4_keepAlike ml_11_336 (t := 56) (ci := 4) (av := [.ref 74, .int ((1 : Int32) <<< (v1 &&& 31))]) (rest := []) (r := none) (σ' := q2) (T_X4_keepAlike (E := fhEn Γ) (d := fhD Γ - 1) hE (by omega) 74 ((1 : Int32) <<< (v1 &&& 31)) rfl q1 hb2) (by omega) (by decide +kernel) rfl rfl rfl (Nat.le_of_ble_eq_true rfl) rfl ?_
    show fhW fhYF Γ 54 [(2, .int (f_X11_one (fhb (f_X4_isKnower v1 q1)) q1)), (0, .ref 0), (1, .int v1)] [] q2
    refine fhW.blk fhPF fhLL hΓ [(.aload_n 0, 0), (.getfield 86, 0), (.iconst 1, 1), (.iload_n 1, 0), (.iload_n 2, 0), (.aload_n 0, 0), (.getfield 72, 0), (.getfield 189, 0)] (pc' := 68) (lv' := [(2, .int (f_X11_one (fhb (f_X4_isKnower v1 q1)) q1)), (0, .ref 0), (1, .int v1)]) (st' := [.int (q2.1 56 8), .int (f_X11_one (fhb (f_X4_isKnower v1 q1)) q1), .int v1, .int (1 : Int32), .ref 93]) (σ' := q2) (by decide +kernel) rfl rfl rfl ?_
    refine fhW.callv hΓ mvX6_write ml_11_339 (t := 93) (ci := 6) (av := [.int (1 : Int32), .int v1, .int (f_X11_one (fhb (f_X4_isKnower v1 q1)) q1), .int (q2.1 56 8)]) (rest := []) (r := none) (σ' := (f_X6_write (1 : Int32) v1 (f_X11_one (fhb (f_X4_isKnower v1 q1)) q1) (q2.1 56 8) q2)) (T_X6_write (E := fhEn Γ) (d := fhD Γ - 1) hE (by omega) (1 : Int32) v1 (f_X11_one (fhb (f_X4_isKnower v1 q1)) q1) (q2.1 56 8) q2) (by omega) (by decide +kernel) rfl rfl rfl (Nat.le_of_ble_eq_true rfl) rfl ?_
    show fhW fhYF Γ 71 [(2, .int (f_X11_one (fhb (f_X4_isKnower v1 q1)) q1)), (0, .ref 0), (1, .int v1)] [] (f_X6_write (1 : Int32) v1 (f_X11_one (fhb (f_X4_isKnower v1 q1)) q1) (q2.1 56 8) q2)
    obtain ⟨q3, e1, h⟩ := fhlet_elim h
    rw [← e1]
    refine fhW.blk fhPF fhLL hΓ [(.iload_n 2, 0)] (pc' := 72) (lv' := [(2, .int (f_X11_one (fhb (f_X4_isKnower v1 q1)) q1)), (0, .ref 0), (1, .int v1)]) (st' := [.int (f_X11_one (fhb (f_X4_isKnower v1 q1)) q1)]) (σ' := q3) (by decide +kernel) rfl rfl rfl ?_
    have e9 := Option.some.inj h
    subst e9
    exact fhW.iret hΓ (by decide +kernel) hk
  · rw [if_neg hc] at h
    refine fhW.blk fhPF fhLL hΓ [(.aload_n 0, 0), (.iconst 2, 2)] (pc' := 10) (lv' := [(0, .ref 0), (1, .int v1)]) (st' := [.int (2 : Int32), .ref 0]) (σ' := σ) (by decide +kernel) rfl rfl rfl ?_
    refine fhW.callv hΓ mvX11_refuse ml_11_106 (t := 0) (ci := 11) (av := [.int (2 : Int32)]) (rest := []) (r := (some (.int (f_X11_refuse (2 : Int32) σ).1))) (σ' := (f_X11_refuse (2 : Int32) σ).2) (T_X11_refuse (E := fhEn Γ) (d := fhD Γ - 1) hE (by omega) (2 : Int32) σ) (by omega) (by decide +kernel) rfl rfl rfl (Nat.le_of_ble_eq_true rfl) rfl ?_
    show fhW fhYF Γ 13 [(0, .ref 0), (1, .int v1)] [.int (f_X11_refuse (2 : Int32) σ).1] (f_X11_refuse (2 : Int32) σ).2
    obtain ⟨q4, e2, h⟩ := fhlet_elim h
    rw [← e2]
    have e9 := Option.some.inj h
    subst e9
    exact fhW.iret hΓ (by decide +kernel) hk
set_option maxRecDepth 100000 in
theorem T_X11_says {E : fhE} {d : Nat} (hE : fhEok fhYF E) (hd : 5 ≤ d) (v1 : Int32)  (σ : fhM) {o : Int32 × fhM} (h : f_X11_says v1 σ = some o) : fhC fhYF E d miX11_says [.ref 0, .int v1] σ (some (.int o.1)) o.2 := by
  refine fhC.of (y := yX11_says) (cc := cX11_says) (nL := 3) (ret := (some .int)) 11 rfl (by decide +kernel) (Nat.le_of_ble_eq_true rfl) ?_
  intro Γ hΓ hR hD hEn
  subst hD; subst hEn
  exact L_X11_says_E hE hΓ hd v1  σ _ h hR
set_option maxRecDepth 100000 in
set_option maxHeartbeats 4000000 in
theorem L_X11_tell_E {Γ : fhX} (hE : fhEok fhYF (fhEn Γ)) (hΓ : fhOk fhYF 11 cX11_tell 3 (some .int) Γ) (hd : 5 ≤ fhD Γ) (v1 : Int32)  (σ : fhM) (o : Int32 × fhM) (h : f_X11_tell v1 σ = some o) (hk : (fun o => fhRet Γ (some (.int o.1)) o.2) o) : fhW fhYF Γ 0 [(0, .ref 0), (1, .int v1)] [] σ := by
  unfold f_X11_tell at h
  refine fhW.blk fhPF fhLL hΓ [(.aload_n 0, 0), (.iload_n 1, 0)] (pc' := 2) (lv' := [(0, .ref 0), (1, .int v1)]) (st' := [.int v1, .ref 0]) (σ' := σ) (by decide +kernel) rfl rfl rfl ?_
  refine fhW.callv hΓ mvX11_isFact ml_11_240 (t := 0) (ci := 11) (av := [.int v1]) (rest := []) (r := (some (.int (fhb (f_X11_isFact v1 σ))))) (σ' := σ) (T_X11_isFact (E := fhEn Γ) (d := fhD Γ - 1) hE (by omega) v1 σ) (by omega) (by decide +kernel) rfl rfl rfl (Nat.le_of_ble_eq_true rfl) rfl ?_
  show fhW fhYF Γ 5 [(0, .ref 0), (1, .int v1)] [.int (fhb (f_X11_isFact v1 σ))] σ
  refine fhW.b_ne hΓ (tgt := 14) (show fhbk _ _ (.ifCond .ne (9)) _ = true by decide +kernel) (fun hc => ?_) (fun hc => ?_)
  · rw [if_pos hc] at h
    refine fhW.blk fhPF fhLL hΓ [(.aload_n 0, 0), (.getfield 86, 0), (.aload_n 0, 0), (.getfield 72, 0)] (pc' := 22) (lv' := [(0, .ref 0), (1, .int v1)]) (st' := [.ref 56, .ref 93]) (σ' := σ) (by decide +kernel) rfl rfl rfl ?_
    obtain ⟨q1, hb1, h⟩ := Option.bind_eq_some_iff.mp h
    refine fhW.callv hΓ mvX6_save ml_11_329 (t := 93) (ci := 6) (av := [.ref 56]) (rest := []) (r := none) (σ' := q1) (T_X6_save (E := fhEn Γ) (d := fhD Γ - 1) hE (by omega) σ hb1) (by omega) (by decide +kernel) rfl rfl rfl (Nat.le_of_ble_eq_true rfl) rfl ?_
    show fhW fhYF Γ 25 [(0, .ref 0), (1, .int v1)] [] q1
    refine fhW.blk fhPF fhLL hΓ [(.aload_n 0, 0), (.getfield 63, 0), (.aload_n 0, 0), (.getfield 72, 0), (.getfield 219, 0), (.iload_n 1, 0)] (pc' := 37) (lv' := [(0, .ref 0), (1, .int v1)]) (st' := [.int v1, .int (q1.1 56 9), .ref 39]) (σ' := q1) (by decide +kernel) rfl rfl rfl ?_
    refine fhW.callv hΓ mvX9_holdsIn ml_11_243 (t := 39) (ci := 9) (av := [.int (q1.1 56 9), .int v1]) (rest := []) (r := (some (.int (fhb (f_X9_holdsIn (q1.1 56 9) v1 q1))))) (σ' := q1) (T_X9_holdsIn (E := fhEn Γ) (d := fhD Γ - 1) hE (by omega) (q1.1 56 9) v1 q1) (by omega) (by decide +kernel) rfl rfl rfl (Nat.le_of_ble_eq_true rfl) rfl ?_
    show fhW fhYF Γ 40 [(0, .ref 0), (1, .int v1)] [.int (fhb (f_X9_holdsIn (q1.1 56 9) v1 q1))] q1
    refine fhW.calls hΓ msX11_one ml_11_233 (av := [.int (fhb (f_X9_holdsIn (q1.1 56 9) v1 q1))]) (rest := []) (r := (some (.int (f_X11_one (fhb (f_X9_holdsIn (q1.1 56 9) v1 q1)) q1)))) (σ' := q1) (T_X11_one (E := fhEn Γ) (d := fhD Γ - 1) hE (by omega) (fhb (f_X9_holdsIn (q1.1 56 9) v1 q1)) q1) (by omega) (by decide +kernel) rfl (Nat.le_of_ble_eq_true rfl) rfl ?_
    show fhW fhYF Γ 43 [(0, .ref 0), (1, .int v1)] [.int (f_X11_one (fhb (f_X9_holdsIn (q1.1 56 9) v1 q1)) q1)] q1
    refine fhW.blk fhPF fhLL hΓ [(.istore_n 2, 0)] (pc' := 44) (lv' := [(2, .int (f_X11_one (fhb (f_X9_holdsIn (q1.1 56 9) v1 q1)) q1)), (0, .ref 0), (1, .int v1)]) (st' := []) (σ' := q1) (by decide +kernel) rfl rfl rfl ?_
    obtain ⟨w2_1, e1, h⟩ := fhlet_elim h
    rw [← e1]
    refine fhW.blk fhPF fhLL hΓ [(.aload_n 0, 0), (.getfield 72, 0), (.aload_n 0, 0), (.getfield 63, 0), (.getfield 247, 0), (.iconst 1, 1), (.iload_n 1, 0), (.ishl, 0)] (pc' := 58) (lv' := [(2, .int w2_1), (0, .ref 0), (1, .int v1)]) (st' := [.int ((1 : Int32) <<< (v1 &&& 31)), .ref 52, .ref 56]) (σ' := q1) (by decide +kernel) rfl rfl rfl ?_
    obtain ⟨q2, hb2, h⟩ := Option.bind_eq_some_iff.mp h
    refine fhW.callv hΓ mvX4_keepAlike ml_11_336 (t := 56) (ci := 4) (av := [.ref 52, .int ((1 : Int32) <<< (v1 &&& 31))]) (rest := []) (r := none) (σ' := q2) (T_X4_keepAlike (E := fhEn Γ) (d := fhD Γ - 1) hE (by omega) 52 ((1 : Int32) <<< (v1 &&& 31)) rfl q1 hb2) (by omega) (by decide +kernel) rfl rfl rfl (Nat.le_of_ble_eq_true rfl) rfl ?_
    show fhW fhYF Γ 61 [(2, .int w2_1), (0, .ref 0), (1, .int v1)] [] q2
    refine fhW.blk fhPF fhLL hΓ [(.aload_n 0, 0), (.getfield 86, 0), (.iconst 2, 2), (.iload_n 1, 0), (.iload_n 2, 0), (.aload_n 0, 0), (.getfield 72, 0), (.getfield 189, 0)] (pc' := 75) (lv' := [(2, .int w2_1), (0, .ref 0), (1, .int v1)]) (st' := [.int (q2.1 56 8), .int w2_1, .int v1, .int (2 : Int32), .ref 93]) (σ' := q2) (by decide +kernel) rfl rfl rfl ?_
    refine fhW.callv hΓ mvX6_write ml_11_339 (t := 93) (ci := 6) (av := [.int (2 : Int32), .int v1, .int w2_1, .int (q2.1 56 8)]) (rest := []) (r := none) (σ' := (f_X6_write (2 : Int32) v1 w2_1 (q2.1 56 8) q2)) (T_X6_write (E := fhEn Γ) (d := fhD Γ - 1) hE (by omega) (2 : Int32) v1 w2_1 (q2.1 56 8) q2) (by omega) (by decide +kernel) rfl rfl rfl (Nat.le_of_ble_eq_true rfl) rfl ?_
    show fhW fhYF Γ 78 [(2, .int w2_1), (0, .ref 0), (1, .int v1)] [] (f_X6_write (2 : Int32) v1 w2_1 (q2.1 56 8) q2)
    obtain ⟨q3, e2, h⟩ := fhlet_elim h
    rw [← e2]
    refine fhW.blk fhPF fhLL hΓ [(.iload_n 2, 0)] (pc' := 79) (lv' := [(2, .int w2_1), (0, .ref 0), (1, .int v1)]) (st' := [.int w2_1]) (σ' := q3) (by decide +kernel) rfl rfl rfl ?_
    have e9 := Option.some.inj h
    subst e9
    exact fhW.iret hΓ (by decide +kernel) hk
  · rw [if_neg hc] at h
    refine fhW.blk fhPF fhLL hΓ [(.aload_n 0, 0), (.iconst 2, 2)] (pc' := 10) (lv' := [(0, .ref 0), (1, .int v1)]) (st' := [.int (2 : Int32), .ref 0]) (σ' := σ) (by decide +kernel) rfl rfl rfl ?_
    refine fhW.callv hΓ mvX11_refuse ml_11_106 (t := 0) (ci := 11) (av := [.int (2 : Int32)]) (rest := []) (r := (some (.int (f_X11_refuse (2 : Int32) σ).1))) (σ' := (f_X11_refuse (2 : Int32) σ).2) (T_X11_refuse (E := fhEn Γ) (d := fhD Γ - 1) hE (by omega) (2 : Int32) σ) (by omega) (by decide +kernel) rfl rfl rfl (Nat.le_of_ble_eq_true rfl) rfl ?_
    show fhW fhYF Γ 13 [(0, .ref 0), (1, .int v1)] [.int (f_X11_refuse (2 : Int32) σ).1] (f_X11_refuse (2 : Int32) σ).2
    obtain ⟨q4, e3, h⟩ := fhlet_elim h
    rw [← e3]
    have e9 := Option.some.inj h
    subst e9
    exact fhW.iret hΓ (by decide +kernel) hk
set_option maxRecDepth 100000 in
theorem T_X11_tell {E : fhE} {d : Nat} (hE : fhEok fhYF E) (hd : 5 ≤ d) (v1 : Int32)  (σ : fhM) {o : Int32 × fhM} (h : f_X11_tell v1 σ = some o) : fhC fhYF E d miX11_tell [.ref 0, .int v1] σ (some (.int o.1)) o.2 := by
  refine fhC.of (y := yX11_tell) (cc := cX11_tell) (nL := 3) (ret := (some .int)) 11 rfl (by decide +kernel) (Nat.le_of_ble_eq_true rfl) ?_
  intro Γ hΓ hR hD hEn
  subst hD; subst hEn
  exact L_X11_tell_E hE hΓ hd v1  σ _ h hR
set_option maxRecDepth 100000 in
set_option maxHeartbeats 4000000 in
theorem L_X9_withMark_E {Γ : fhX} (hE : fhEok fhYF (fhEn Γ)) (hΓ : fhOk fhYF 9 cX9_withMark 4 (some .int) Γ) (hd : 2 ≤ fhD Γ) (v1 : Int32) (v2 : Int32) (v3 : Int32)  (σ : fhM) (o : Int32) (h : f_X9_withMark v1 v2 v3 σ = o) (hk : (fun o => fhRet Γ (some (.int o)) σ) o) : fhW fhYF Γ 0 [(0, .ref 39), (1, .int v1), (2, .int v2), (3, .int v3)] [] σ := by
  unfold f_X9_withMark at h
  refine fhW.blk fhPF fhLL hΓ [(.iload_n 3, 0)] (pc' := 1) (lv' := [(0, .ref 39), (1, .int v1), (2, .int v2), (3, .int v3)]) (st' := [.int v3]) (σ' := σ) (by decide +kernel) rfl rfl rfl ?_
  refine fhW.z_lt hΓ (tgt := 12) (show fhbk _ _ (.ifCond .lt (11)) _ = true by decide +kernel) (fun hc => ?_) (fun hc => ?_)
  · rw [if_pos hc] at h
    refine fhW.blk fhPF fhLL hΓ [(.iconst (-1), -1)] (pc' := 13) (lv' := [(0, .ref 39), (1, .int v1), (2, .int v2), (3, .int v3)]) (st' := [.int (-1 : Int32)]) (σ' := σ) (by decide +kernel) rfl rfl rfl ?_
    subst h
    exact fhW.iret hΓ (by decide +kernel) hk
  · rw [if_neg hc] at h
    refine fhW.blk fhPF fhLL hΓ [(.iload_n 3, 0), (.aload_n 0, 0), (.getfield 47, 0)] (pc' := 9) (lv' := [(0, .ref 39), (1, .int v1), (2, .int v2), (3, .int v3)]) (st' := [.int (σ.1 39 5), .int v3]) (σ' := σ) (by decide +kernel) rfl rfl rfl ?_
    refine fhW.i_lt hΓ (tgt := 14) (show fhbk _ _ (.if_icmp .lt (5)) _ = true by decide +kernel) (fun hc => ?_) (fun hc => ?_)
    · rw [if_pos hc] at h
      refine fhW.blk fhPF fhLL hΓ [(.iload_n 1, 0), (.iload_n 3, 0), (.aload_n 0, 0), (.iload_n 1, 0), (.iload_n 2, 0)] (pc' := 19) (lv' := [(0, .ref 39), (1, .int v1), (2, .int v2), (3, .int v3)]) (st' := [.int v2, .int v1, .ref 39, .int v3, .int v1]) (σ' := σ) (by decide +kernel) rfl rfl rfl ?_
      refine fhW.callv hΓ mvX9_markOf ml_9_99 (t := 39) (ci := 9) (av := [.int v1, .int v2]) (rest := [.int v3, .int v1]) (r := (some (.int (f_X9_markOf v1 v2 σ)))) (σ' := σ) (T_X9_markOf (E := fhEn Γ) (d := fhD Γ - 1) hE (by omega) v1 v2 σ) (by omega) (by decide +kernel) rfl rfl rfl (Nat.le_of_ble_eq_true rfl) rfl ?_
      show fhW fhYF Γ 22 [(0, .ref 39), (1, .int v1), (2, .int v2), (3, .int v3)] [.int (f_X9_markOf v1 v2 σ), .int v3, .int v1] σ
      refine fhW.blk fhPF fhLL hΓ [(.isub, 0), (.aload_n 0, 0), (.getfield 14, 0), (.iload_n 2, 0)] (pc' := 28) (lv' := [(0, .ref 39), (1, .int v1), (2, .int v2), (3, .int v3)]) (st' := [.int v2, .ref 40, .int (v3 - (f_X9_markOf v1 v2 σ)), .int v1]) (σ' := σ) (by decide +kernel) rfl rfl rfl ?_
      refine fhW.callv hΓ mvX2_get ml_9_60 (t := 40) (ci := 2) (av := [.int v2]) (rest := [.int (v3 - (f_X9_markOf v1 v2 σ)), .int v1]) (r := (some (.int (fcG σ 40 v2)))) (σ' := σ) (T_X2_get (E := fhEn Γ) (d := fhD Γ - 1) hE (by omega) 40 v2 rfl σ) (by omega) (by decide +kernel) rfl rfl rfl (Nat.le_of_ble_eq_true rfl) rfl ?_
      show fhW fhYF Γ 31 [(0, .ref 39), (1, .int v1), (2, .int v2), (3, .int v3)] [.int (fcG σ 40 v2), .int (v3 - (f_X9_markOf v1 v2 σ)), .int v1] σ
      refine fhW.blk fhPF fhLL hΓ [(.imul, 0), (.iadd, 0)] (pc' := 33) (lv' := [(0, .ref 39), (1, .int v1), (2, .int v2), (3, .int v3)]) (st' := [.int (v1 + ((v3 - (f_X9_markOf v1 v2 σ)) * (fcG σ 40 v2)))]) (σ' := σ) (by decide +kernel) rfl rfl rfl ?_
      subst h
      exact fhW.iret hΓ (by decide +kernel) hk
    · rw [if_neg hc] at h
      refine fhW.blk fhPF fhLL hΓ [(.iconst (-1), -1)] (pc' := 13) (lv' := [(0, .ref 39), (1, .int v1), (2, .int v2), (3, .int v3)]) (st' := [.int (-1 : Int32)]) (σ' := σ) (by decide +kernel) rfl rfl rfl ?_
      subst h
      exact fhW.iret hΓ (by decide +kernel) hk
set_option maxRecDepth 100000 in
theorem T_X9_withMark {E : fhE} {d : Nat} (hE : fhEok fhYF E) (hd : 2 ≤ d) (v1 : Int32) (v2 : Int32) (v3 : Int32)  (σ : fhM) : fhC fhYF E d miX9_withMark [.ref 39, .int v1, .int v2, .int v3] σ (some (.int (f_X9_withMark v1 v2 v3 σ))) σ := by
  refine fhC.of (y := yX9_withMark) (cc := cX9_withMark) (nL := 4) (ret := (some .int)) 9 rfl (by decide +kernel) (Nat.le_of_ble_eq_true rfl) ?_
  intro Γ hΓ hR hD hEn
  subst hD; subst hEn
  exact L_X9_withMark_E hE hΓ hd v1 v2 v3  σ _ rfl hR
set_option maxRecDepth 100000 in
set_option maxHeartbeats 4000000 in
theorem L_X9_isAllowed_E {Γ : fhX} (hE : fhEok fhYF (fhEn Γ)) (hΓ : fhOk fhYF 9 cX9_isAllowed 2 (some .boolean) Γ) (hd : 1 ≤ fhD Γ) (v1 : Int32)  (σ : fhM) (o : Bool) (h : f_X9_isAllowed v1 σ = o) (hk : (fun o => fhRet Γ (some (.int (fhb o))) σ) o) : fhW fhYF Γ 0 [(0, .ref 39), (1, .int v1)] [] σ := by
  unfold f_X9_isAllowed at h
  refine fhW.blk fhPF fhLL hΓ [(.aload_n 0, 0), (.getfield 26, 0), (.iload_n 1, 0)] (pc' := 5) (lv' := [(0, .ref 39), (1, .int v1)]) (st' := [.int v1, .ref 46]) (σ' := σ) (by decide +kernel) rfl rfl rfl ?_
  refine fhW.callv hΓ mvX2_get ml_9_60 (t := 46) (ci := 2) (av := [.int v1]) (rest := []) (r := (some (.int (fcG σ 46 v1)))) (σ' := σ) (T_X2_get (E := fhEn Γ) (d := fhD Γ - 1) hE (by omega) 46 v1 rfl σ) (by omega) (by decide +kernel) rfl rfl rfl (Nat.le_of_ble_eq_true rfl) rfl ?_
  show fhW fhYF Γ 8 [(0, .ref 39), (1, .int v1)] [.int (fcG σ 46 v1)] σ
  refine fhW.z_eq hΓ (tgt := 15) (show fhbk _ _ (.ifCond .eq (7)) _ = true by decide +kernel) (fun hc => ?_) (fun hc => ?_)
  · rw [if_pos hc] at h
    refine fhW.blk fhPF fhLL hΓ [(.iconst 0, 0)] (pc' := 16) (lv' := [(0, .ref 39), (1, .int v1)]) (st' := [.int (0 : Int32)]) (σ' := σ) (by decide +kernel) rfl rfl rfl ?_
    subst h
    exact fhW.zret (v := false) hΓ (by decide +kernel) hk
  · rw [if_neg hc] at h
    refine fhW.blk fhPF fhLL hΓ [(.iconst 1, 1)] (pc' := 12) (lv' := [(0, .ref 39), (1, .int v1)]) (st' := [.int (1 : Int32)]) (σ' := σ) (by decide +kernel) rfl rfl rfl ?_
    refine fhW.goto hΓ (off := 4) (tgt := 16) (by decide +kernel) ?_
    subst h
    exact fhW.zret (v := true) hΓ (by decide +kernel) hk
set_option maxRecDepth 100000 in
theorem T_X9_isAllowed {E : fhE} {d : Nat} (hE : fhEok fhYF E) (hd : 1 ≤ d) (v1 : Int32)  (σ : fhM) : fhC fhYF E d miX9_isAllowed [.ref 39, .int v1] σ (some (.int (fhb (f_X9_isAllowed v1 σ)))) σ := by
  refine fhC.of (y := yX9_isAllowed) (cc := cX9_isAllowed) (nL := 2) (ret := (some .boolean)) 9 rfl (by decide +kernel) (Nat.le_of_ble_eq_true rfl) ?_
  intro Γ hΓ hR hD hEn
  subst hD; subst hEn
  exact L_X9_isAllowed_E hE hΓ hd v1  σ _ rfl hR
set_option maxRecDepth 100000 in
set_option maxHeartbeats 4000000 in
theorem L_X11_wear_56 {Γ : fhX} (hE : fhEok fhYF (fhEn Γ)) (hΓ : fhOk fhYF 11 cX11_wear 4 (some .boolean) Γ) (hd : 5 ≤ fhD Γ)   (σ : fhM) (o : Bool × fhM) (h : f_X11_wear_56 σ = some o) (hk : (fun o => fhRet Γ (some (.int (fhb o.1))) o.2) o) : fhW fhYF Γ 56 [(0, .ref 0)] [] σ := by
  unfold f_X11_wear_56 at h
  refine fhW.blk fhPF fhLL hΓ [(.aload_n 0, 0), (.iconst 2, 2)] (pc' := 58) (lv' := [(0, .ref 0)]) (st' := [.int (2 : Int32), .ref 0]) (σ' := σ) (by decide +kernel) rfl rfl rfl ?_
  refine fhW.callv hΓ mvX11_refuse ml_11_106 (t := 0) (ci := 11) (av := [.int (2 : Int32)]) (rest := []) (r := (some (.int (f_X11_refuse (2 : Int32) σ).1))) (σ' := (f_X11_refuse (2 : Int32) σ).2) (T_X11_refuse (E := fhEn Γ) (d := fhD Γ - 1) hE (by omega) (2 : Int32) σ) (by omega) (by decide +kernel) rfl rfl rfl (Nat.le_of_ble_eq_true rfl) rfl ?_
  show fhW fhYF Γ 61 [(0, .ref 0)] [.int (f_X11_refuse (2 : Int32) σ).1] (f_X11_refuse (2 : Int32) σ).2
  obtain ⟨q3, e1, h⟩ := fhlet_elim h
  rw [← e1]
  refine fhW.blk fhPF fhLL hΓ [(.pop, 0), (.iconst 0, 0)] (pc' := 63) (lv' := [(0, .ref 0)]) (st' := [.int (0 : Int32)]) (σ' := q3.2) (by decide +kernel) rfl rfl rfl ?_
  have e9 := Option.some.inj h
  subst e9
  exact fhW.zret (v := false) hΓ (by decide +kernel) hk
set_option maxRecDepth 100000 in
set_option maxHeartbeats 4000000 in
theorem L_X11_wear_28 {Γ : fhX} (hE : fhEok fhYF (fhEn Γ)) (hΓ : fhOk fhYF 11 cX11_wear 4 (some .boolean) Γ) (hd : 5 ≤ fhD Γ) (s0 : Int32)  (σ : fhM) (o : Bool × fhM) (h : f_X11_wear_28 s0 σ = some o) (hk : (fun o => fhRet Γ (some (.int (fhb o.1))) o.2) o) : fhW fhYF Γ 28 [(0, .ref 0)] [.int s0] σ := by
  unfold f_X11_wear_28 at h
  refine fhW.blk fhPF fhLL hΓ [(.istore_n 3, 0), (.iload_n 3, 0), (.iconst (-1), -1)] (pc' := 31) (lv' := [(3, .int s0), (0, .ref 0)]) (st' := [.int (-1 : Int32), .int s0]) (σ' := σ) (by decide +kernel) rfl rfl rfl ?_
  refine fhW.i_eq hΓ (tgt := 56) (show fhbk _ _ (.if_icmp .eq (25)) _ = true by decide +kernel) (fun hc => ?_) (fun hc => ?_)
  · rw [if_pos hc] at h
    refine fhW.sub (lv' := [(0, .ref 0)]) [1] rfl ?_
    exact L_X11_wear_56 hE hΓ hd σ _ h hk
  · rw [if_neg hc] at h
    refine fhW.blk fhPF fhLL hΓ [(.iload_n 3, 0), (.aload_n 0, 0), (.getfield 72, 0), (.getfield 219, 0)] (pc' := 42) (lv' := [(3, .int s0), (0, .ref 0)]) (st' := [.int (σ.1 56 9), .int s0]) (σ' := σ) (by decide +kernel) rfl rfl rfl ?_
    refine fhW.i_eq hΓ (tgt := 56) (show fhbk _ _ (.if_icmp .eq (14)) _ = true by decide +kernel) (fun hc => ?_) (fun hc => ?_)
    · rw [if_pos hc] at h
      refine fhW.sub (lv' := [(0, .ref 0)]) [1] rfl ?_
      exact L_X11_wear_56 hE hΓ hd σ _ h hk
    · rw [if_neg hc] at h
      refine fhW.blk fhPF fhLL hΓ [(.aload_n 0, 0), (.getfield 63, 0), (.iload_n 3, 0)] (pc' := 50) (lv' := [(3, .int s0), (0, .ref 0)]) (st' := [.int s0, .ref 39]) (σ' := σ) (by decide +kernel) rfl rfl rfl ?_
      refine fhW.callv hΓ mvX9_isAllowed ml_11_347 (t := 39) (ci := 9) (av := [.int s0]) (rest := []) (r := (some (.int (fhb (f_X9_isAllowed s0 σ))))) (σ' := σ) (T_X9_isAllowed (E := fhEn Γ) (d := fhD Γ - 1) hE (by omega) s0 σ) (by omega) (by decide +kernel) rfl rfl rfl (Nat.le_of_ble_eq_true rfl) rfl ?_
      show fhW fhYF Γ 53 [(3, .int s0), (0, .ref 0)] [.int (fhb (f_X9_isAllowed s0 σ))] σ
      refine fhW.b_ne hΓ (tgt := 64) (show fhbk _ _ (.ifCond .ne (11)) _ = true by decide +kernel) (fun hc => ?_) (fun hc => ?_)
      · rw [if_pos hc] at h
        refine fhW.blk fhPF fhLL hΓ [(.aload_n 0, 0), (.getfield 86, 0), (.aload_n 0, 0), (.getfield 72, 0)] (pc' := 72) (lv' := [(3, .int s0), (0, .ref 0)]) (st' := [.ref 56, .ref 93]) (σ' := σ) (by decide +kernel) rfl rfl rfl ?_
        obtain ⟨q1, hb1, h⟩ := Option.bind_eq_some_iff.mp h
        refine fhW.callv hΓ mvX6_save ml_11_329 (t := 93) (ci := 6) (av := [.ref 56]) (rest := []) (r := none) (σ' := q1) (T_X6_save (E := fhEn Γ) (d := fhD Γ - 1) hE (by omega) σ hb1) (by omega) (by decide +kernel) rfl rfl rfl (Nat.le_of_ble_eq_true rfl) rfl ?_
        show fhW fhYF Γ 75 [(3, .int s0), (0, .ref 0)] [] q1
        refine fhW.blk fhPF fhLL hΓ [(.aload_n 0, 0), (.getfield 72, 0), (.iload_n 3, 0)] (pc' := 80) (lv' := [(3, .int s0), (0, .ref 0)]) (st' := [.int s0, .ref 56]) (σ' := q1) (by decide +kernel) rfl rfl rfl ?_
        obtain ⟨q2, hb2, h⟩ := Option.bind_eq_some_iff.mp h
        refine fhW.callv hΓ mvX4_begin ml_11_156 (t := 56) (ci := 4) (av := [.int s0]) (rest := []) (r := none) (σ' := q2) (T_X4_begin (E := fhEn Γ) (d := fhD Γ - 1) hE (by omega) s0 q1 hb2) (by omega) (by decide +kernel) rfl rfl rfl (Nat.le_of_ble_eq_true rfl) rfl ?_
        show fhW fhYF Γ 83 [(3, .int s0), (0, .ref 0)] [] q2
        refine fhW.blk fhPF fhLL hΓ [(.iconst 1, 1)] (pc' := 84) (lv' := [(3, .int s0), (0, .ref 0)]) (st' := [.int (1 : Int32)]) (σ' := q2) (by decide +kernel) rfl rfl rfl ?_
        have e9 := Option.some.inj h
        subst e9
        exact fhW.zret (v := true) hΓ (by decide +kernel) hk
      · rw [if_neg hc] at h
        refine fhW.sub (lv' := [(0, .ref 0)]) [1] rfl ?_
        exact L_X11_wear_56 hE hΓ hd σ _ h hk
set_option maxRecDepth 100000 in
set_option maxHeartbeats 4000000 in
theorem L_X11_wear_E {Γ : fhX} (hE : fhEok fhYF (fhEn Γ)) (hΓ : fhOk fhYF 11 cX11_wear 4 (some .boolean) Γ) (hd : 5 ≤ fhD Γ) (v1 : Int32) (v2 : Int32)  (σ : fhM) (o : Bool × fhM) (h : f_X11_wear v1 v2 σ = some o) (hk : (fun o => fhRet Γ (some (.int (fhb o.1))) o.2) o) : fhW fhYF Γ 0 [(0, .ref 0), (1, .int v1), (2, .int v2)] [] σ := by
  unfold f_X11_wear at h
  refine fhW.blk fhPF fhLL hΓ [(.aload_n 0, 0), (.iload_n 1, 0)] (pc' := 2) (lv' := [(0, .ref 0), (1, .int v1), (2, .int v2)]) (st' := [.int v1, .ref 0]) (σ' := σ) (by decide +kernel) rfl rfl rfl ?_
  refine fhW.callv hΓ mvX11_isGuest ml_11_212 (t := 0) (ci := 11) (av := [.int v1]) (rest := []) (r := (some (.int (fhb (f_X11_isGuest v1 σ))))) (σ' := σ) (T_X11_isGuest (E := fhEn Γ) (d := fhD Γ - 1) hE (by omega) v1 σ) (by omega) (by decide +kernel) rfl rfl rfl (Nat.le_of_ble_eq_true rfl) rfl ?_
  show fhW fhYF Γ 5 [(0, .ref 0), (1, .int v1), (2, .int v2)] [.int (fhb (f_X11_isGuest v1 σ))] σ
  refine fhW.b_eq hΓ (tgt := 27) (show fhbk _ _ (.ifCond .eq (22)) _ = true by decide +kernel) (fun hc => ?_) (fun hc => ?_)
  · simp only [if_neg hc] at h
    refine fhW.blk fhPF fhLL hΓ [(.iconst (-1), -1)] (pc' := 28) (lv' := [(0, .ref 0), (1, .int v1), (2, .int v2)]) (st' := [.int (-1 : Int32)]) (σ' := σ) (by decide +kernel) rfl rfl rfl ?_
    refine fhW.sub (lv' := [(0, .ref 0)]) [0] rfl ?_
    exact L_X11_wear_28 hE hΓ hd (-1 : Int32) σ _ h hk
  · simp only [if_pos hc] at h
    refine fhW.blk fhPF fhLL hΓ [(.aload_n 0, 0), (.getfield 63, 0), (.aload_n 0, 0), (.getfield 72, 0), (.getfield 219, 0), (.iload_n 1, 0), (.iload_n 2, 0)] (pc' := 21) (lv' := [(0, .ref 0), (1, .int v1), (2, .int v2)]) (st' := [.int v2, .int v1, .int (σ.1 56 9), .ref 39]) (σ' := σ) (by decide +kernel) rfl rfl rfl ?_
    refine fhW.callv hΓ mvX9_withMark ml_11_343 (t := 39) (ci := 9) (av := [.int (σ.1 56 9), .int v1, .int v2]) (rest := []) (r := (some (.int (f_X9_withMark (σ.1 56 9) v1 v2 σ)))) (σ' := σ) (T_X9_withMark (E := fhEn Γ) (d := fhD Γ - 1) hE (by omega) (σ.1 56 9) v1 v2 σ) (by omega) (by decide +kernel) rfl rfl rfl (Nat.le_of_ble_eq_true rfl) rfl ?_
    show fhW fhYF Γ 24 [(0, .ref 0), (1, .int v1), (2, .int v2)] [.int (f_X9_withMark (σ.1 56 9) v1 v2 σ)] σ
    refine fhW.goto hΓ (off := 4) (tgt := 28) (by decide +kernel) ?_
    refine fhW.sub (lv' := [(0, .ref 0)]) [0] rfl ?_
    exact L_X11_wear_28 hE hΓ hd (f_X9_withMark (σ.1 56 9) v1 v2 σ) σ _ h hk
set_option maxRecDepth 100000 in
theorem T_X11_wear {E : fhE} {d : Nat} (hE : fhEok fhYF E) (hd : 5 ≤ d) (v1 : Int32) (v2 : Int32)  (σ : fhM) {o : Bool × fhM} (h : f_X11_wear v1 v2 σ = some o) : fhC fhYF E d miX11_wear [.ref 0, .int v1, .int v2] σ (some (.int (fhb o.1))) o.2 := by
  refine fhC.of (y := yX11_wear) (cc := cX11_wear) (nL := 4) (ret := (some .boolean)) 11 rfl (by decide +kernel) (Nat.le_of_ble_eq_true rfl) ?_
  intro Γ hΓ hR hD hEn
  subst hD; subst hEn
  exact L_X11_wear_E hE hΓ hd v1 v2  σ _ h hR

