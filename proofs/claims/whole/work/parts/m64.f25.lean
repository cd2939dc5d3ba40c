set_option maxRecDepth 100000 in
set_option maxHeartbeats 4000000 in
theorem L_X11_on_35 {Γ : fhX} (hE : fhEok fhYF (fhEn Γ)) (hΓ : fhOk fhYF 11 cX11_on 4 (some .boolean) Γ) (hd : 4 ≤ fhD Γ)   (σ : fhM) (o : Bool × fhM) (h : f_X11_on_35 σ = some o) (hk : (fun o => fhRet Γ (some (.int (fhb o.1))) o.2) o) : fhW fhYF Γ 35 [(0, .ref 0)] [] σ := by
  unfold f_X11_on_35 at h
  refine fhW.blk fhPF fhLL hΓ [(.aload_n 0, 0), (.iconst 5, 5)] (pc' := 37) (lv' := [(0, .ref 0)]) (st' := [.int (5 : Int32), .ref 0]) (σ' := σ) (by decide +kernel) rfl rfl rfl ?_
  refine fhW.callv hΓ mvX11_refuse ml_11_106 (t := 0) (ci := 11) (av := [.int (5 : Int32)]) (rest := []) (r := (some (.int (f_X11_refuse (5 : Int32) σ).1))) (σ' := (f_X11_refuse (5 : Int32) σ).2) (T_X11_refuse (E := fhEn Γ) (d := fhD Γ - 1) hE (by omega) (5 : Int32) σ) (by omega) (by decide +kernel) rfl rfl rfl (Nat.le_of_ble_eq_true rfl) rfl ?_
  show fhW fhYF Γ 40 [(0, .ref 0)] [.int (f_X11_refuse (5 : Int32) σ).1] (f_X11_refuse (5 : Int32) σ).2
  obtain ⟨q4, e1, h⟩ := fhlet_elim h
  rw [← e1]
  refine fhW.blk fhPF fhLL hΓ [(.pop, 0), (.iconst 0, 0)] (pc' := 42) (lv' := [(0, .ref 0)]) (st' := [.int (0 : Int32)]) (σ' := q4.2) (by decide +kernel) rfl rfl rfl ?_
  have e9 := Option.some.inj h
  subst e9
  exact fhW.zret (v := false) hΓ (by decide +kernel) hk
set_option maxRecDepth 100000 in
set_option maxHeartbeats 4000000 in
theorem L_X11_on_103 {Γ : fhX} (hE : fhEok fhYF (fhEn Γ)) (hΓ : fhOk fhYF 11 cX11_on 4 (some .boolean) Γ) (hd : 4 ≤ fhD Γ) (v2 : Int32) (v3 : Int32)  (σ : fhM) (o : (Int32 × fhM) ⊕ (Bool × fhM)) (h : f_X11_on_103 v2 v3 σ = some o) (hk : (fhK (fun x => fhW fhYF Γ 53 [(0, .ref 0), (2, .int v2), (3, .int x.1)] [] x.2) (fun o => fhRet Γ (some (.int (fhb o.1))) o.2)) o) : fhW fhYF Γ 103 [(0, .ref 0), (2, .int v2), (3, .int v3)] [] σ := by
  unfold f_X11_on_103 at h
  refine fhW.blk fhPF fhLL hΓ [(.iinc 3 1, 1)] (pc' := 106) (lv' := [(3, .int (v3 + (1 : Int32))), (0, .ref 0), (2, .int v2)]) (st' := []) (σ' := σ) (by decide +kernel) rfl rfl rfl ?_
  refine fhW.goto hΓ (off := (-53)) (tgt := 53) (by decide +kernel) ?_
  refine fhW.sub (lv' := [(0, .ref 0), (2, .int v2), (3, .int (v3 + (1 : Int32)))]) [1, 2, 0] rfl ?_
  have e9 := Option.some.inj h
  subst e9
  exact hk
set_option maxRecDepth 100000 in
set_option maxHeartbeats 4000000 in
theorem L_X11_on_53 {Γ : fhX} (hE : fhEok fhYF (fhEn Γ)) (hΓ : fhOk fhYF 11 cX11_on 4 (some .boolean) Γ) (hd : 4 ≤ fhD Γ) (v2 : Int32) (v3 : Int32)  (σ : fhM) (o : (Int32 × fhM) ⊕ (Bool × fhM)) (h : f_X11_on_53 v2 v3 σ = some o) (hk : (fhK (fun x => fhW fhYF Γ 53 [(0, .ref 0), (2, .int v2), (3, .int x.1)] [] x.2) (fun o => fhRet Γ (some (.int (fhb o.1))) o.2)) o) : fhW fhYF Γ 53 [(0, .ref 0), (2, .int v2), (3, .int v3)] [] σ := by
  unfold f_X11_on_53 at h
  refine fhW.blk fhPF fhLL hΓ [(.iload_n 3, 0), (.aload_n 0, 0), (.getfield 63, 0), (.getfield 260, 0)] (pc' := 61) (lv' := [(0, .ref 0), (2, .int v2), (3, .int v3)]) (st' := [.int (σ.1 39 11), .int v3]) (σ' := σ) (by decide +kernel) rfl rfl rfl ?_
  refine fhW.i_ge hΓ (tgt := 109) (show fhbk _ _ (.if_icmp .ge (48)) _ = true by decide +kernel) (fun hc => ?_) (fun hc => ?_)
  · rw [if_pos hc] at h
    refine fhW.blk fhPF fhLL hΓ [(.aload_n 0, 0), (.getfield 72, 0), (.aload_n 0, 0), (.getfield 14, 0), (.iconst 0, 0)] (pc' := 118) (lv' := [(0, .ref 0), (2, .int v2), (3, .int v3)]) (st' := [.int (0 : Int32), .ref 1, .ref 56]) (σ' := σ) (by decide +kernel) rfl rfl rfl ?_
    refine fhW.callv hΓ mvX2_get ml_11_117 (t := 1) (ci := 2) (av := [.int (0 : Int32)]) (rest := [.ref 56]) (r := (some (.int (fcG σ 1 (0 : Int32))))) (σ' := σ) (T_X2_get (E := fhEn Γ) (d := fhD Γ - 1) hE (by omega) 1 (0 : Int32) rfl σ) (by omega) (by decide +kernel) rfl rfl rfl (Nat.le_of_ble_eq_true rfl) rfl ?_
    show fhW fhYF Γ 121 [(0, .ref 0), (2, .int v2), (3, .int v3)] [.int (fcG σ 1 (0 : Int32)), .ref 56] σ
    refine fhW.blk fhPF fhLL hΓ [(.sipush 256, 256), (.imul, 0), (.aload_n 0, 0), (.getfield 14, 0), (.iconst 1, 1)] (pc' := 130) (lv' := [(0, .ref 0), (2, .int v2), (3, .int v3)]) (st' := [.int (1 : Int32), .ref 1, .int ((fcG σ 1 (0 : Int32)) * (256 : Int32)), .ref 56]) (σ' := σ) (by decide +kernel) rfl rfl rfl ?_
    refine fhW.callv hΓ mvX2_get ml_11_117 (t := 1) (ci := 2) (av := [.int (1 : Int32)]) (rest := [.int ((fcG σ 1 (0 : Int32)) * (256 : Int32)), .ref 56]) (r := (some (.int (fcG σ 1 (1 : Int32))))) (σ' := σ) (T_X2_get (E := fhEn Γ) (d := fhD Γ - 1) hE (by omega) 1 (1 : Int32) rfl σ) (by omega) (by decide +kernel) rfl rfl rfl (Nat.le_of_ble_eq_true rfl) rfl ?_
    show fhW fhYF Γ 133 [(0, .ref 0), (2, .int v2), (3, .int v3)] [.int (fcG σ 1 (1 : Int32)), .int ((fcG σ 1 (0 : Int32)) * (256 : Int32)), .ref 56] σ
    refine fhW.blk fhPF fhLL hΓ [(.iadd, 0), (.putfield 186, 0), (.aload_n 0, 0), (.getfield 72, 0), (.iload_n 2, 0), (.putfield 219, 0), (.aload_n 0, 0), (.getfield 72, 0)] (pc' := 149) (lv' := [(0, .ref 0), (2, .int v2), (3, .int v3)]) (st' := [.ref 56]) (σ' := (fhI (fhI σ 56 10 (((fcG σ 1 (0 : Int32)) * (256 : Int32)) + (fcG σ 1 (1 : Int32)))) 56 9 v2)) (by decide +kernel) rfl rfl rfl ?_
    obtain ⟨q5, hb1, h⟩ := Option.bind_eq_some_iff.mp h
    refine fhW.callv hΓ mvX4_settle ml_11_414 (t := 56) (ci := 4) (av := []) (rest := []) (r := none) (σ' := q5) (T_X4_settle (E := fhEn Γ) (d := fhD Γ - 1) hE (by omega) (fhI (fhI σ 56 10 (((fcG σ 1 (0 : Int32)) * (256 : Int32)) + (fcG σ 1 (1 : Int32)))) 56 9 v2) hb1) (by omega) (by decide +kernel) rfl rfl rfl (Nat.le_of_ble_eq_true rfl) rfl ?_
    show fhW fhYF Γ 152 [(0, .ref 0), (2, .int v2), (3, .int v3)] [] q5
    refine fhW.blk fhPF fhLL hΓ [(.aload_n 0, 0), (.getfield 86, 0)] (pc' := 156) (lv' := [(0, .ref 0), (2, .int v2), (3, .int v3)]) (st' := [.ref 93]) (σ' := q5) (by decide +kernel) rfl rfl rfl ?_
    refine fhW.callv hΓ mvX6_wipe ml_11_162 (t := 93) (ci := 6) (av := []) (rest := []) (r := none) (σ' := (f_X6_wipe q5)) (T_X6_wipe (E := fhEn Γ) (d := fhD Γ - 1) hE (by omega) q5) (by omega) (by decide +kernel) rfl rfl rfl (Nat.le_of_ble_eq_true rfl) rfl ?_
    show fhW fhYF Γ 159 [(0, .ref 0), (2, .int v2), (3, .int v3)] [] (f_X6_wipe q5)
    obtain ⟨q6, e2, h⟩ := fhlet_elim h
    rw [← e2]
    refine fhW.blk fhPF fhLL hΓ [(.iconst 1, 1)] (pc' := 160) (lv' := [(0, .ref 0), (2, .int v2), (3, .int v3)]) (st' := [.int (1 : Int32)]) (σ' := q6) (by decide +kernel) rfl rfl rfl ?_
    have e9 := Option.some.inj h
    subst e9
    exact fhW.zret (v := true) hΓ (by decide +kernel) hk
  · rw [if_neg hc] at h
    refine fhW.blk fhPF fhLL hΓ [(.aload_n 0, 0), (.iload_n 3, 0)] (pc' := 66) (lv' := [(0, .ref 0), (2, .int v2), (3, .int v3)]) (st' := [.int v3, .ref 0]) (σ' := σ) (by decide +kernel) rfl rfl rfl ?_
    refine fhW.callv hΓ mvX11_tapeBit ml_11_411 (t := 0) (ci := 11) (av := [.int v3]) (rest := []) (r := (some (.int (fhb (f_X11_tapeBit v3 σ))))) (σ' := σ) (T_X11_tapeBit (E := fhEn Γ) (d := fhD Γ - 1) hE (by omega) v3 σ) (by omega) (by decide +kernel) rfl rfl rfl (Nat.le_of_ble_eq_true rfl) rfl ?_
    show fhW fhYF Γ 69 [(0, .ref 0), (2, .int v2), (3, .int v3)] [.int (fhb (f_X11_tapeBit v3 σ))] σ
    refine fhW.b_eq hΓ (tgt := 103) (show fhbk _ _ (.ifCond .eq (34)) _ = true by decide +kernel) (fun hc => ?_) (fun hc => ?_)
    · rw [if_neg hc] at h
      refine fhW.sub (lv' := [(0, .ref 0), (2, .int v2), (3, .int v3)]) [0, 1, 2] rfl ?_
      exact L_X11_on_103 hE hΓ hd v2 v3 σ _ h hk
    · rw [if_pos hc] at h
      refine fhW.blk fhPF fhLL hΓ [(.aload_n 0, 0), (.getfield 72, 0), (.getfield 257, 0), (.aload_n 0, 0), (.getfield 72, 0), (.getfield 189, 0), (.iload_n 3, 0)] (pc' := 87) (lv' := [(0, .ref 0), (2, .int v2), (3, .int v3)]) (st' := [.int v3, .int (σ.1 56 8), .ref 72]) (σ' := σ) (by decide +kernel) rfl rfl rfl ?_
      refine fhW.callv hΓ mvX2_put ml_11_113 (t := 72) (ci := 2) (av := [.int (σ.1 56 8), .int v3]) (rest := []) (r := none) (σ' := (fcP σ 72 (σ.1 56 8) v3)) (T_X2_put (E := fhEn Γ) (d := fhD Γ - 1) hE (by omega) 72 (σ.1 56 8) v3 rfl σ) (by omega) (by decide +kernel) rfl rfl rfl (Nat.le_of_ble_eq_true rfl) rfl ?_
      show fhW fhYF Γ 90 [(0, .ref 0), (2, .int v2), (3, .int v3)] [] (fcP σ 72 (σ.1 56 8) v3)
      refine fhW.blk fhPF fhLL hΓ [(.aload_n 0, 0), (.getfield 72, 0), (.dup, 0), (.getfield 189, 0), (.iconst 1, 1), (.iadd, 0), (.putfield 189, 0)] (pc' := 103) (lv' := [(0, .ref 0), (2, .int v2), (3, .int v3)]) (st' := []) (σ' := (fhI (fcP σ 72 (σ.1 56 8) v3) 56 8 ((σ.1 56 8) + (1 : Int32)))) (by decide +kernel) rfl rfl rfl ?_
      refine fhW.sub (lv' := [(0, .ref 0), (2, .int v2), (3, .int v3)]) [0, 1, 2] rfl ?_
      exact L_X11_on_103 hE hΓ hd v2 v3 (fhI (fcP σ 72 (σ.1 56 8) v3) 56 8 ((σ.1 56 8) + (1 : Int32))) _ h hk
set_option maxRecDepth 100000 in
set_option maxHeartbeats 4000000 in
theorem L_X11_on_21 {Γ : fhX} (hE : fhEok fhYF (fhEn Γ)) (hΓ : fhOk fhYF 11 cX11_on 4 (some .boolean) Γ) (hd : 4 ≤ fhD Γ) (s0 : Int32)  (σ : fhM) (o : Bool × fhM) (h : f_X11_on_21 s0 σ = some o) (hk : (fun o => fhRet Γ (some (.int (fhb o.1))) o.2) o) : fhW fhYF Γ 21 [(0, .ref 0)] [.int s0] σ := by
  unfold f_X11_on_21 at h
  refine fhW.blk fhPF fhLL hΓ [(.istore_n 2, 0), (.iload_n 2, 0), (.iconst (-1), -1)] (pc' := 24) (lv' := [(2, .int s0), (0, .ref 0)]) (st' := [.int (-1 : Int32), .int s0]) (σ' := σ) (by decide +kernel) rfl rfl rfl ?_
  refine fhW.i_eq hΓ (tgt := 35) (show fhbk _ _ (.if_icmp .eq (11)) _ = true by decide +kernel) (fun hc => ?_) (fun hc => ?_)
  · rw [if_pos hc] at h
    refine fhW.sub (lv' := [(0, .ref 0)]) [1] rfl ?_
    exact L_X11_on_35 hE hΓ hd σ _ h hk
  · rw [if_neg hc] at h
    refine fhW.blk fhPF fhLL hΓ [(.aload_n 0, 0), (.iload_n 2, 0)] (pc' := 29) (lv' := [(2, .int s0), (0, .ref 0)]) (st' := [.int s0, .ref 0]) (σ' := σ) (by decide +kernel) rfl rfl rfl ?_
    obtain ⟨q3, hb2, h⟩ := Option.bind_eq_some_iff.mp h
    refine fhW.callv hΓ mvX11_isLeftFitting ml_11_408 (t := 0) (ci := 11) (av := [.int s0]) (rest := []) (r := (some (.int (fhb q3)))) (σ' := σ) (T_X11_isLeftFitting (E := fhEn Γ) (d := fhD Γ - 1) hE (by omega) s0 σ hb2) (by omega) (by decide +kernel) rfl rfl rfl (Nat.le_of_ble_eq_true rfl) rfl ?_
    show fhW fhYF Γ 32 [(2, .int s0), (0, .ref 0)] [.int (fhb q3)] σ
    refine fhW.b_ne hΓ (tgt := 43) (show fhbk _ _ (.ifCond .ne (11)) _ = true by decide +kernel) (fun hc => ?_) (fun hc => ?_)
    · rw [if_pos hc] at h
      refine fhW.blk fhPF fhLL hΓ [(.aload_n 0, 0), (.getfield 72, 0), (.iconst 0, 0), (.putfield 189, 0), (.iconst 0, 0), (.istore_n 3, 0)] (pc' := 53) (lv' := [(3, .int (0 : Int32)), (2, .int s0), (0, .ref 0)]) (st' := []) (σ' := (fhI σ 56 8 (0 : Int32))) (by decide +kernel) rfl rfl rfl ?_
      refine fhW.sub (lv' := [(0, .ref 0), (2, .int s0), (3, .int (0 : Int32))]) [2, 1, 0] rfl ?_
      exact fhlp_ok (W := (fun x => fhW fhYF Γ 53 [(0, .ref 0), (2, .int s0), (3, .int x.1)] [] x.2)) (B := (fun o => fhRet Γ (some (.int (fhb o.1))) o.2)) (fun x o h hk => L_X11_on_53 hE hΓ hd s0 x.1 x.2 o h hk) ((0 : Int32), (fhI σ 56 8 (0 : Int32))) _ h hk
    · rw [if_neg hc] at h
      refine fhW.sub (lv' := [(0, .ref 0)]) [1] rfl ?_
      exact L_X11_on_35 hE hΓ hd σ _ h hk
set_option maxRecDepth 100000 in
set_option maxHeartbeats 4000000 in
theorem L_X11_on_E {Γ : fhX} (hE : fhEok fhYF (fhEn Γ)) (hΓ : fhOk fhYF 11 cX11_on 4 (some .boolean) Γ) (hd : 4 ≤ fhD Γ)   (σ : fhM) (o : Bool × fhM) (h : f_X11_on σ = some o) (hk : (fun o => fhRet Γ (some (.int (fhb o.1))) o.2) o) : fhW fhYF Γ 0 [(0, .ref 0)] [] σ := by
  unfold f_X11_on at h
  refine fhW.blk fhPF fhLL hΓ [(.aload_n 0, 0)] (pc' := 1) (lv' := [(0, .ref 0)]) (st' := [.ref 0]) (σ' := σ) (by decide +kernel) rfl rfl rfl ?_
  refine fhW.callv hΓ mvX11_takeTape ml_11_120 (t := 0) (ci := 11) (av := []) (rest := []) (r := (some (.int (f_X11_takeTape σ).1))) (σ' := (f_X11_takeTape σ).2) (T_X11_takeTape (E := fhEn Γ) (d := fhD Γ - 1) hE (by omega) σ) (by omega) (by decide +kernel) rfl rfl rfl (Nat.le_of_ble_eq_true rfl) rfl ?_
  show fhW fhYF Γ 4 [(0, .ref 0)] [.int (f_X11_takeTape σ).1] (f_X11_takeTape σ).2
  obtain ⟨q1, e3, h⟩ := fhlet_elim h
  rw [← e3]
  refine fhW.blk fhPF fhLL hΓ [(.istore_n 1, 0), (.aload_n 0, 0), (.getfield 145, 0)] (pc' := 9) (lv' := [(1, .int q1.1), (0, .ref 0)]) (st' := [.int (q1.2.1 0 8)]) (σ' := q1.2) (by decide +kernel) rfl rfl rfl ?_
  refine fhW.z_eq hΓ (tgt := 20) (show fhbk _ _ (.ifCond .eq (11)) _ = true by decide +kernel) (fun hc => ?_) (fun hc => ?_)
  · rw [if_pos hc] at h
    refine fhW.blk fhPF fhLL hΓ [(.iconst (-1), -1)] (pc' := 21) (lv' := [(1, .int q1.1), (0, .ref 0)]) (st' := [.int (-1 : Int32)]) (σ' := q1.2) (by decide +kernel) rfl rfl rfl ?_
    refine fhW.sub (lv' := [(0, .ref 0)]) [1] rfl ?_
    exact L_X11_on_21 hE hΓ hd (-1 : Int32) q1.2 _ h hk
  · rw [if_neg hc] at h
    refine fhW.blk fhPF fhLL hΓ [(.aload_n 0, 0), (.iload_n 1, 0)] (pc' := 14) (lv' := [(1, .int q1.1), (0, .ref 0)]) (st' := [.int q1.1, .ref 0]) (σ' := q1.2) (by decide +kernel) rfl rfl rfl ?_
    obtain ⟨q2, hb3, h⟩ := Option.bind_eq_some_iff.mp h
    refine fhW.callv hΓ mvX11_rowOfPicture ml_11_405 (t := 0) (ci := 11) (av := [.int q1.1]) (rest := []) (r := (some (.int q2))) (σ' := q1.2) (T_X11_rowOfPicture (E := fhEn Γ) (d := fhD Γ - 1) hE (by omega) q1.1 q1.2 hb3) (by omega) (by decide +kernel) rfl rfl rfl (Nat.le_of_ble_eq_true rfl) rfl ?_
    show fhW fhYF Γ 17 [(1, .int q1.1), (0, .ref 0)] [.int q2] q1.2
    refine fhW.goto hΓ (off := 4) (tgt := 21) (by decide +kernel) ?_
    refine fhW.sub (lv' := [(0, .ref 0)]) [1] rfl ?_
    exact L_X11_on_21 hE hΓ hd q2 q1.2 _ h hk
set_option maxRecDepth 100000 in
theorem T_X11_on {E : fhE} {d : Nat} (hE : fhEok fhYF E) (hd : 4 ≤ d)   (σ : fhM) {o : Bool × fhM} (h : f_X11_on σ = some o) : fhC fhYF E d miX11_on [.ref 0] σ (some (.int (fhb o.1))) o.2 := by
  refine fhC.of (y := yX11_on) (cc := cX11_on) (nL := 4) (ret := (some .boolean)) 11 rfl (by decide +kernel) (Nat.le_of_ble_eq_true rfl) ?_
  intro Γ hΓ hR hD hEn
  subst hD; subst hEn
  exact L_X11_on_E hE hΓ hd   σ _ h hR
set_option maxRecDepth 100000 in
set_option maxHeartbeats 4000000 in
theorem L_X11_status_E {Γ : fhX} (hE : fhEok fhYF (fhEn Γ)) (hΓ : fhOk fhYF 11 cX11_status 2 (some .int) Γ) (hd : 1 ≤ fhD Γ) (v1 : Int32)  (σ : fhM) (o : Int32) (h : f_X11_status v1 σ = o) (hk : (fun o => fhRet Γ (some (.int o)) σ) o) : fhW fhYF Γ 0 [(0, .ref 0), (1, .int v1)] [] σ := by
  unfold f_X11_status at h
  refine fhW.blk fhPF fhLL hΓ [(.iload_n 1, 0)] (pc' := 1) (lv' := [(0, .ref 0), (1, .int v1)]) (st' := [.int v1]) (σ' := σ) (by decide +kernel) rfl rfl rfl ?_
  refine fhW.z_lt hΓ (tgt := 21) (show fhbk _ _ (.ifCond .lt (20)) _ = true by decide +kernel) (fun hc => ?_) (fun hc => ?_)
  · rw [if_pos hc] at h
    refine fhW.blk fhPF fhLL hΓ [(.iconst (-1), -1)] (pc' := 22) (lv' := [(0, .ref 0), (1, .int v1)]) (st' := [.int (-1 : Int32)]) (σ' := σ) (by decide +kernel) rfl rfl rfl ?_
    subst h
    exact fhW.iret hΓ (by decide +kernel) hk
  · rw [if_neg hc] at h
    refine fhW.blk fhPF fhLL hΓ [(.iload_n 1, 0), (.bipush 6, 6)] (pc' := 7) (lv' := [(0, .ref 0), (1, .int v1)]) (st' := [.int (6 : Int32), .int v1]) (σ' := σ) (by decide +kernel) rfl rfl rfl ?_
    refine fhW.i_ge hΓ (tgt := 21) (show fhbk _ _ (.if_icmp .ge (14)) _ = true by decide +kernel) (fun hc => ?_) (fun hc => ?_)
    · rw [if_pos hc] at h
      refine fhW.blk fhPF fhLL hΓ [(.iconst (-1), -1)] (pc' := 22) (lv' := [(0, .ref 0), (1, .int v1)]) (st' := [.int (-1 : Int32)]) (σ' := σ) (by decide +kernel) rfl rfl rfl ?_
      subst h
      exact fhW.iret hΓ (by decide +kernel) hk
    · rw [if_neg hc] at h
      refine fhW.blk fhPF fhLL hΓ [(.aload_n 0, 0), (.getfield 93, 0), (.iload_n 1, 0)] (pc' := 15) (lv' := [(0, .ref 0), (1, .int v1)]) (st' := [.int v1, .ref 100]) (σ' := σ) (by decide +kernel) rfl rfl rfl ?_
      refine fhW.callv hΓ mvX2_get ml_11_117 (t := 100) (ci := 2) (av := [.int v1]) (rest := []) (r := (some (.int (fcG σ 100 v1)))) (σ' := σ) (T_X2_get (E := fhEn Γ) (d := fhD Γ - 1) hE (by omega) 100 v1 rfl σ) (by omega) (by decide +kernel) rfl rfl rfl (Nat.le_of_ble_eq_true rfl) rfl ?_
      show fhW fhYF Γ 18 [(0, .ref 0), (1, .int v1)] [.int (fcG σ 100 v1)] σ
      refine fhW.goto hΓ (off := 4) (tgt := 22) (by decide +kernel) ?_
      subst h
      exact fhW.iret hΓ (by decide +kernel) hk
set_option maxRecDepth 100000 in
theorem T_X11_status {E : fhE} {d : Nat} (hE : fhEok fhYF E) (hd : 1 ≤ d) (v1 : Int32)  (σ : fhM) : fhC fhYF E d miX11_status [.ref 0, .int v1] σ (some (.int (f_X11_status v1 σ))) σ := by
  refine fhC.of (y := yX11_status) (cc := cX11_status) (nL := 2) (ret := (some .int)) 11 rfl (by decide +kernel) (Nat.le_of_ble_eq_true rfl) ?_
  intro Γ hΓ hR hD hEn
  subst hD; subst hEn
  exact L_X11_status_E hE hΓ hd v1  σ _ rfl hR
set_option maxRecDepth 100000 in
set_option maxHeartbeats 4000000 in
theorem L_X3_add_E {Γ : fhX} (hE : fhEok fhYF (fhEn Γ)) (hΓ : fhOk fhYF 3 cX3_add 3 none Γ) (hd : 1 ≤ fhD Γ) (v0 : Nat) (v1 : Int32) (v2 : Int32) (hv0 : fhiK v0 = true) (σ : fhM) (o : fhM) (h : f_X3_add v0 v1 v2 σ = o) (hk : (fun o => fhRet Γ none o) o) : fhW fhYF Γ 0 [(0, .ref v0), (1, .int v1), (2, .int v2)] [] σ := by
  unfold f_X3_add at h
  refine fhW.blk fhPF fhLL hΓ [(.aload_n 0, 0), (.getfield 14, 0), (.aload_n 0, 0), (.getfield 20, 0), (.iload_n 1, 0), (.iload_n 2, 0)] (pc' := 10) (lv' := [(0, .ref v0), (1, .int v1), (2, .int v2)]) (st' := [.int v2, .int v1, .int (σ.1 v0 1), .ref (v0 + 1)]) (σ' := σ) (by decide +kernel) rfl rfl (by rcases fhiK_or hv0 with rfl | rfl | rfl <;> rfl) ?_
  refine fhW.blk fhPF fhLL hΓ [(.iconst 4, 4), (.ishl, 0), (.ior, 0)] (pc' := 13) (lv' := [(0, .ref v0), (1, .int v1), (2, .int v2)]) (st' := [.int (v1 ||| (v2 <<< ((4 : Int32) &&& 31))), .int (σ.1 v0 1), .ref (v0 + 1)]) (σ' := σ) (by decide +kernel) rfl rfl rfl ?_
  refine fhW.callv hΓ mvX2_put ml_3_24 (t := (v0 + 1)) (ci := 2) (av := [.int (σ.1 v0 1), .int (v1 ||| (v2 <<< ((4 : Int32) &&& 31)))]) (rest := []) (r := none) (σ' := (fcP σ (v0 + 1) (σ.1 v0 1) (v1 ||| (v2 <<< ((4 : Int32) &&& 31))))) (T_X2_put (E := fhEn Γ) (d := fhD Γ - 1) hE (by omega) (v0 + 1) (σ.1 v0 1) (v1 ||| (v2 <<< ((4 : Int32) &&& 31))) (fhiK_ind (p := fun q => fhiC (q + 1) = true) hv0 rfl rfl rfl) σ) (by omega) (by decide +kernel) rfl (fhiC_g (fhiK_ind (p := fun q => fhiC (q + 1) = true) hv0 rfl rfl rfl)) rfl (Nat.le_of_ble_eq_true rfl) rfl ?_
  show fhW fhYF Γ 16 [(0, .ref v0), (1, .int v1), (2, .int v2)] [] (fcP σ (v0 + 1) (σ.1 v0 1) (v1 ||| (v2 <<< ((4 : Int32) &&& 31))))
  refine fhW.blk fhPF fhLL hΓ [(.aload_n 0, 0), (.aload_n 0, 0), (.getfield 20, 0), (.iconst 1, 1), (.iadd, 0), (.sipush 1600, 1600)] (pc' := 26) (lv' := [(0, .ref v0), (1, .int v1), (2, .int v2)]) (st' := [.int (1600 : Int32), .int (((fcP σ (v0 + 1) (σ.1 v0 1) (v1 ||| (v2 <<< ((4 : Int32) &&& 31)))).1 v0 1) + (1 : Int32)), .ref v0]) (σ' := (fcP σ (v0 + 1) (σ.1 v0 1) (v1 ||| (v2 <<< ((4 : Int32) &&& 31))))) (by decide +kernel) rfl rfl (by rcases fhiK_or hv0 with rfl | rfl | rfl <;> rfl) ?_
  refine fhW.calls hΓ msJ9_min_7cf53 ml_3_28 (av := [.int (((fcP σ (v0 + 1) (σ.1 v0 1) (v1 ||| (v2 <<< ((4 : Int32) &&& 31)))).1 v0 1) + (1 : Int32)), .int (1600 : Int32)]) (rest := [.ref v0]) (r := (some (.int (f_J9_min_7cf53 (((fcP σ (v0 + 1) (σ.1 v0 1) (v1 ||| (v2 <<< ((4 : Int32) &&& 31)))).1 v0 1) + (1 : Int32)) (1600 : Int32) (fcP σ (v0 + 1) (σ.1 v0 1) (v1 ||| (v2 <<< ((4 : Int32) &&& 31)))))))) (σ' := (fcP σ (v0 + 1) (σ.1 v0 1) (v1 ||| (v2 <<< ((4 : Int32) &&& 31))))) (T_J9_min_7cf53 (E := fhEn Γ) (d := fhD Γ - 1) hE (by omega) (((fcP σ (v0 + 1) (σ.1 v0 1) (v1 ||| (v2 <<< ((4 : Int32) &&& 31)))).1 v0 1) + (1 : Int32)) (1600 : Int32) (fcP σ (v0 + 1) (σ.1 v0 1) (v1 ||| (v2 <<< ((4 : Int32) &&& 31))))) (by omega) (by decide +kernel) rfl (Nat.le_of_ble_eq_true rfl) rfl ?_
  show fhW fhYF Γ 29 [(0, .ref v0), (1, .int v1), (2, .int v2)] [.int (f_J9_min_7cf53 (((fcP σ (v0 + 1) (σ.1 v0 1) (v1 ||| (v2 <<< ((4 : Int32) &&& 31)))).1 v0 1) + (1 : Int32)) (1600 : Int32) (fcP σ (v0 + 1) (σ.1 v0 1) (v1 ||| (v2 <<< ((4 : Int32) &&& 31))))), .ref v0] (fcP σ (v0 + 1) (σ.1 v0 1) (v1 ||| (v2 <<< ((4 : Int32) &&& 31))))
  refine fhW.blk fhPF fhLL hΓ [(.putfield 20, 0)] (pc' := 32) (lv' := [(0, .ref v0), (1, .int v1), (2, .int v2)]) (st' := []) (σ' := (fhI (fcP σ (v0 + 1) (σ.1 v0 1) (v1 ||| (v2 <<< ((4 : Int32) &&& 31)))) v0 1 (f_J9_min_7cf53 (((fcP σ (v0 + 1) (σ.1 v0 1) (v1 ||| (v2 <<< ((4 : Int32) &&& 31)))).1 v0 1) + (1 : Int32)) (1600 : Int32) (fcP σ (v0 + 1) (σ.1 v0 1) (v1 ||| (v2 <<< ((4 : Int32) &&& 31))))))) (by decide +kernel) rfl rfl (by rcases fhiK_or hv0 with rfl | rfl | rfl <;> rfl) ?_
  subst h
  exact fhW.vret hΓ (by decide +kernel) hk
set_option maxRecDepth 100000 in
theorem T_X3_add {E : fhE} {d : Nat} (hE : fhEok fhYF E) (hd : 1 ≤ d) (v0 : Nat) (v1 : Int32) (v2 : Int32) (hv0 : fhiK v0 = true) (σ : fhM) : fhC fhYF E d miX3_add [.ref v0, .int v1, .int v2] σ none (f_X3_add v0 v1 v2 σ) := by
  refine fhC.of (y := yX3_add) (cc := cX3_add) (nL := 3) (ret := none) 3 rfl (by decide +kernel) (Nat.le_of_ble_eq_true rfl) ?_
  intro Γ hΓ hR hD hEn
  subst hD; subst hEn
  exact L_X3_add_E hE hΓ hd v0 v1 v2 hv0 σ _ rfl hR
set_option maxRecDepth 100000 in
set_option maxHeartbeats 4000000 in
theorem L_X5_signHere_49 {Γ : fhX} (hE : fhEok fhYF (fhEn Γ)) (hΓ : fhOk fhYF 5 cX5_signHere 1 (some .int) Γ) (hd : 2 ≤ fhD Γ)   (σ : fhM) (o : Int32 × fhM) (h : f_X5_signHere_49 σ = o) (hk : (fun o => fhRet Γ (some (.int o.1)) o.2) o) : fhW fhYF Γ 49 [] [] σ := by
  unfold f_X5_signHere_49 at h
  refine fhW.blk fhPF fhLL hΓ [(.bipush 12, 12)] (pc' := 51) (lv' := []) (st' := [.int (12 : Int32)]) (σ' := σ) (by decide +kernel) rfl rfl rfl ?_
  subst h
  exact fhW.iret hΓ (by decide +kernel) hk
set_option maxRecDepth 100000 in
set_option maxHeartbeats 4000000 in
theorem L_X5_signHere_E {Γ : fhX} (hE : fhEok fhYF (fhEn Γ)) (hΓ : fhOk fhYF 5 cX5_signHere 1 (some .int) Γ) (hd : 2 ≤ fhD Γ)   (σ : fhM) (o : Int32 × fhM) (h : f_X5_signHere σ = o) (hk : (fun o => fhRet Γ (some (.int o.1)) o.2) o) : fhW fhYF Γ 0 [(0, .ref 9)] [] σ := by
  unfold f_X5_signHere at h
  refine fhW.blk fhPF fhLL hΓ [(.aload_n 0, 0), (.getfield 9, 0), (.bipush 60, 60)] (pc' := 6) (lv' := [(0, .ref 9)]) (st' := [.int (60 : Int32), .ref 3]) (σ' := σ) (by decide +kernel) rfl rfl rfl ?_
  refine fhW.callv hΓ mvX8_isSign ml_5_73 (t := 3) (ci := 8) (av := [.int (60 : Int32)]) (rest := []) (r := (some (.int (fhb (f_X8_isSign (60 : Int32) σ))))) (σ' := σ) (T_X8_isSign (E := fhEn Γ) (d := fhD Γ - 1) hE (by omega) (60 : Int32) σ) (by omega) (by decide +kernel) rfl rfl rfl (Nat.le_of_ble_eq_true rfl) rfl ?_
  show fhW fhYF Γ 9 [(0, .ref 9)] [.int (fhb (f_X8_isSign (60 : Int32) σ))] σ
  refine fhW.b_eq hΓ (tgt := 15) (show fhbk _ _ (.ifCond .eq (6)) _ = true by decide +kernel) (fun hc => ?_) (fun hc => ?_)
  · rw [if_neg hc] at h
    refine fhW.blk fhPF fhLL hΓ [(.aload_n 0, 0), (.getfield 9, 0), (.bipush 62, 62)] (pc' := 21) (lv' := [(0, .ref 9)]) (st' := [.int (62 : Int32), .ref 3]) (σ' := σ) (by decide +kernel) rfl rfl rfl ?_
    refine fhW.callv hΓ mvX8_isSign ml_5_73 (t := 3) (ci := 8) (av := [.int (62 : Int32)]) (rest := []) (r := (some (.int (fhb (f_X8_isSign (62 : Int32) σ))))) (σ' := σ) (T_X8_isSign (E := fhEn Γ) (d := fhD Γ - 1) hE (by omega) (62 : Int32) σ) (by omega) (by decide +kernel) rfl rfl rfl (Nat.le_of_ble_eq_true rfl) rfl ?_
    show fhW fhYF Γ 24 [(0, .ref 9)] [.int (fhb (f_X8_isSign (62 : Int32) σ))] σ
    refine fhW.b_eq hΓ (tgt := 30) (show fhbk _ _ (.ifCond .eq (6)) _ = true by decide +kernel) (fun hc => ?_) (fun hc => ?_)
    · rw [if_neg hc] at h
      refine fhW.blk fhPF fhLL hΓ [(.aload_n 0, 0), (.getfield 9, 0), (.bipush 61, 61)] (pc' := 36) (lv' := [(0, .ref 9)]) (st' := [.int (61 : Int32), .ref 3]) (σ' := σ) (by decide +kernel) rfl rfl rfl ?_
      refine fhW.callv hΓ mvX8_isSign ml_5_73 (t := 3) (ci := 8) (av := [.int (61 : Int32)]) (rest := []) (r := (some (.int (fhb (f_X8_isSign (61 : Int32) σ))))) (σ' := σ) (T_X8_isSign (E := fhEn Γ) (d := fhD Γ - 1) hE (by omega) (61 : Int32) σ) (by omega) (by decide +kernel) rfl rfl rfl (Nat.le_of_ble_eq_true rfl) rfl ?_
      show fhW fhYF Γ 39 [(0, .ref 9)] [.int (fhb (f_X8_isSign (61 : Int32) σ))] σ
      refine fhW.b_ne hΓ (tgt := 49) (show fhbk _ _ (.ifCond .ne (10)) _ = true by decide +kernel) (fun hc => ?_) (fun hc => ?_)
      · rw [if_pos hc] at h
        refine fhW.sub (lv' := []) [] rfl ?_
        exact L_X5_signHere_49 hE hΓ hd σ _ h hk
      · rw [if_neg hc] at h
        refine fhW.blk fhPF fhLL hΓ [(.aload_n 0, 0), (.getfield 9, 0)] (pc' := 46) (lv' := [(0, .ref 9)]) (st' := [.ref 3]) (σ' := σ) (by decide +kernel) rfl rfl rfl ?_
        refine fhW.callv hΓ mvX8_failHere ml_5_38 (t := 3) (ci := 8) (av := []) (rest := []) (r := none) (σ' := (f_X8_failHere σ)) (T_X8_failHere (E := fhEn Γ) (d := fhD Γ - 1) hE (by omega) σ) (by omega) (by decide +kernel) rfl rfl rfl (Nat.le_of_ble_eq_true rfl) rfl ?_
        show fhW fhYF Γ 49 [(0, .ref 9)] [] (f_X8_failHere σ)
        obtain ⟨q1, e1, h⟩ := fhlet_elim h
        rw [← e1]
        refine fhW.sub (lv' := []) [] rfl ?_
        exact L_X5_signHere_49 hE hΓ hd q1 _ h hk
    · rw [if_pos hc] at h
      refine fhW.blk fhPF fhLL hΓ [(.bipush 11, 11)] (pc' := 29) (lv' := [(0, .ref 9)]) (st' := [.int (11 : Int32)]) (σ' := σ) (by decide +kernel) rfl rfl rfl ?_
      subst h
      exact fhW.iret hΓ (by decide +kernel) hk
  · rw [if_pos hc] at h
    refine fhW.blk fhPF fhLL hΓ [(.bipush 10, 10)] (pc' := 14) (lv' := [(0, .ref 9)]) (st' := [.int (10 : Int32)]) (σ' := σ) (by decide +kernel) rfl rfl rfl ?_
    subst h
    exact fhW.iret hΓ (by decide +kernel) hk
set_option maxRecDepth 100000 in
theorem T_X5_signHere {E : fhE} {d : Nat} (hE : fhEok fhYF E) (hd : 2 ≤ d)   (σ : fhM) : fhC fhYF E d miX5_signHere [.ref 9] σ (some (.int (f_X5_signHere σ).1)) (f_X5_signHere σ).2 := by
  refine fhC.of (y := yX5_signHere) (cc := cX5_signHere) (nL := 1) (ret := (some .int)) 5 rfl (by decide +kernel) (Nat.le_of_ble_eq_true rfl) ?_
  intro Γ hΓ hR hD hEn
  subst hD; subst hEn
  exact L_X5_signHere_E hE hΓ hd   σ _ rfl hR
set_option maxRecDepth 100000 in
set_option maxHeartbeats 4000000 in
theorem L_X5_goDeeper_E {Γ : fhX} (hE : fhEok fhYF (fhEn Γ)) (hΓ : fhOk fhYF 5 cX5_goDeeper 1 (some .boolean) Γ) (hd : 2 ≤ fhD Γ)   (σ : fhM) (o : Bool × fhM) (h : f_X5_goDeeper σ = o) (hk : (fun o => fhRet Γ (some (.int (fhb o.1))) o.2) o) : fhW fhYF Γ 0 [(0, .ref 9)] [] σ := by
  unfold f_X5_goDeeper at h
  refine fhW.blk fhPF fhLL hΓ [(.aload_n 0, 0), (.getfield 53, 0), (.bipush 6, 6)] (pc' := 6) (lv' := [(0, .ref 9)]) (st' := [.int (6 : Int32), .int (σ.1 9 4)]) (σ' := σ) (by decide +kernel) rfl rfl rfl ?_
  refine fhW.i_lt hΓ (tgt := 26) (show fhbk _ _ (.if_icmp .lt (20)) _ = true by decide +kernel) (fun hc => ?_) (fun hc => ?_)
  · rw [if_pos hc] at h
    refine fhW.blk fhPF fhLL hΓ [(.aload_n 0, 0), (.dup, 0), (.getfield 53, 0), (.iconst 1, 1), (.iadd, 0), (.putfield 53, 0), (.aload_n 0, 0), (.getfield 9, 0)] (pc' := 40) (lv' := [(0, .ref 9)]) (st' := [.ref 3]) (σ' := (fhI σ 9 4 ((σ.1 9 4) + (1 : Int32)))) (by decide +kernel) rfl rfl rfl ?_
    refine fhW.callv hΓ mvX8_advance ml_5_29 (t := 3) (ci := 8) (av := []) (rest := []) (r := none) (σ' := (f_X8_advance (fhI σ 9 4 ((σ.1 9 4) + (1 : Int32))))) (T_X8_advance (E := fhEn Γ) (d := fhD Γ - 1) hE (by omega) (fhI σ 9 4 ((σ.1 9 4) + (1 : Int32)))) (by omega) (by decide +kernel) rfl rfl rfl (Nat.le_of_ble_eq_true rfl) rfl ?_
    show fhW fhYF Γ 43 [(0, .ref 9)] [] (f_X8_advance (fhI σ 9 4 ((σ.1 9 4) + (1 : Int32))))
    obtain ⟨q1, e1, h⟩ := fhlet_elim h
    rw [← e1]
    refine fhW.blk fhPF fhLL hΓ [(.iconst 1, 1)] (pc' := 44) (lv' := [(0, .ref 9)]) (st' := [.int (1 : Int32)]) (σ' := q1) (by decide +kernel) rfl rfl rfl ?_
    subst h
    exact fhW.zret (v := true) hΓ (by decide +kernel) hk
  · rw [if_neg hc] at h
    refine fhW.blk fhPF fhLL hΓ [(.aload_n 0, 0), (.getfield 9, 0), (.iconst 4, 4), (.aload_n 0, 0), (.getfield 9, 0), (.getfield 87, 0)] (pc' := 21) (lv' := [(0, .ref 9)]) (st' := [.int (σ.1 3 8), .int (4 : Int32), .ref 3]) (σ' := σ) (by decide +kernel) rfl rfl rfl ?_
    refine fhW.callv hΓ mvX8_fail ml_5_90 (t := 3) (ci := 8) (av := [.int (4 : Int32), .int (σ.1 3 8)]) (rest := []) (r := none) (σ' := (f_X8_fail (4 : Int32) (σ.1 3 8) σ)) (T_X8_fail (E := fhEn Γ) (d := fhD Γ - 1) hE (by omega) (4 : Int32) (σ.1 3 8) σ) (by omega) (by decide +kernel) rfl rfl rfl (Nat.le_of_ble_eq_true rfl) rfl ?_
    show fhW fhYF Γ 24 [(0, .ref 9)] [] (f_X8_fail (4 : Int32) (σ.1 3 8) σ)
    obtain ⟨q2, e2, h⟩ := fhlet_elim h
    rw [← e2]
    refine fhW.blk fhPF fhLL hΓ [(.iconst 0, 0)] (pc' := 25) (lv' := [(0, .ref 9)]) (st' := [.int (0 : Int32)]) (σ' := q2) (by decide +kernel) rfl rfl rfl ?_
    subst h
    exact fhW.zret (v := false) hΓ (by decide +kernel) hk
set_option maxRecDepth 100000 in
theorem T_X5_goDeeper {E : fhE} {d : Nat} (hE : fhEok fhYF E) (hd : 2 ≤ d)   (σ : fhM) : fhC fhYF E d miX5_goDeeper [.ref 9] σ (some (.int (fhb (f_X5_goDeeper σ).1))) (f_X5_goDeeper σ).2 := by
  refine fhC.of (y := yX5_goDeeper) (cc := cX5_goDeeper) (nL := 1) (ret := (some .boolean)) 5 rfl (by decide +kernel) (Nat.le_of_ble_eq_true rfl) ?_
  intro Γ hΓ hR hD hEn
  subst hD; subst hEn
  exact L_X5_goDeeper_E hE hΓ hd   σ _ rfl hR
set_option maxRecDepth 100000 in
set_option maxHeartbeats 4000000 in
theorem L_X5_isLookingWord_31 {Γ : fhX} (hE : fhEok fhYF (fhEn Γ)) (hΓ : fhOk fhYF 5 cX5_isLookingWord 1 (some .boolean) Γ) (hd : 1 ≤ fhD Γ)   (σ : fhM) (o : Bool) (h : f_X5_isLookingWord_31 σ = o) (hk : (fun o => fhRet Γ (some (.int (fhb o))) σ) o) : fhW fhYF Γ 31 [] [] σ := by
  unfold f_X5_isLookingWord_31 at h
  refine fhW.blk fhPF fhLL hΓ [(.iconst 1, 1)] (pc' := 32) (lv' := []) (st' := [.int (1 : Int32)]) (σ' := σ) (by decide +kernel) rfl rfl rfl ?_
  refine fhW.goto hΓ (off := 4) (tgt := 36) (by decide +kernel) ?_
  subst h
  exact fhW.zret (v := true) hΓ (by decide +kernel) hk
set_option maxRecDepth 100000 in
set_option maxHeartbeats 4000000 in
theorem L_X5_isLookingWord_E {Γ : fhX} (hE : fhEok fhYF (fhEn Γ)) (hΓ : fhOk fhYF 5 cX5_isLookingWord 1 (some .boolean) Γ) (hd : 1 ≤ fhD Γ)   (σ : fhM) (o : Bool) (h : f_X5_isLookingWord σ = o) (hk : (fun o => fhRet Γ (some (.int (fhb o))) σ) o) : fhW fhYF Γ 0 [(0, .ref 9)] [] σ := by
  unfold f_X5_isLookingWord at h
  refine fhW.blk fhPF fhLL hΓ [(.aload_n 0, 0), (.getfield 49, 0)] (pc' := 4) (lv' := [(0, .ref 9)]) (st' := [.int (σ.1 9 3)]) (σ' := σ) (by decide +kernel) rfl rfl rfl ?_
  refine fhW.z_eq hΓ (tgt := 37) (show fhbk _ _ (.ifCond .eq (33)) _ = true by decide +kernel) (fun hc => ?_) (fun hc => ?_)
  · rw [if_pos hc] at h
    refine fhW.blk fhPF fhLL hΓ [(.aload_n 0, 0), (.getfield 9, 0), (.bipush 12, 12)] (pc' := 43) (lv' := [(0, .ref 9)]) (st' := [.int (12 : Int32), .ref 3]) (σ' := σ) (by decide +kernel) rfl rfl rfl ?_
    refine fhW.callv hΓ mvX8_isWord ml_5_60 (t := 3) (ci := 8) (av := [.int (12 : Int32)]) (rest := []) (r := (some (.int (fhb (f_X8_isWord (12 : Int32) σ))))) (σ' := σ) (T_X8_isWord (E := fhEn Γ) (d := fhD Γ - 1) hE (by omega) (12 : Int32) σ) (by omega) (by decide +kernel) rfl rfl rfl (Nat.le_of_ble_eq_true rfl) rfl ?_
    show fhW fhYF Γ 46 [(0, .ref 9)] [.int (fhb (f_X8_isWord (12 : Int32) σ))] σ
    subst h
    exact fhW.zret (v := (f_X8_isWord (12 : Int32) σ)) hΓ (by decide +kernel) hk
  · rw [if_neg hc] at h
    refine fhW.blk fhPF fhLL hΓ [(.aload_n 0, 0), (.getfield 9, 0), (.bipush 18, 18)] (pc' := 13) (lv' := [(0, .ref 9)]) (st' := [.int (18 : Int32), .ref 3]) (σ' := σ) (by decide +kernel) rfl rfl rfl ?_
    refine fhW.callv hΓ mvX8_isWord ml_5_60 (t := 3) (ci := 8) (av := [.int (18 : Int32)]) (rest := []) (r := (some (.int (fhb (f_X8_isWord (18 : Int32) σ))))) (σ' := σ) (T_X8_isWord (E := fhEn Γ) (d := fhD Γ - 1) hE (by omega) (18 : Int32) σ) (by omega) (by decide +kernel) rfl rfl rfl (Nat.le_of_ble_eq_true rfl) rfl ?_
    show fhW fhYF Γ 16 [(0, .ref 9)] [.int (fhb (f_X8_isWord (18 : Int32) σ))] σ
    refine fhW.b_ne hΓ (tgt := 31) (show fhbk _ _ (.ifCond .ne (15)) _ = true by decide +kernel) (fun hc => ?_) (fun hc => ?_)
    · rw [if_pos hc] at h
      refine fhW.sub (lv' := []) [] rfl ?_
      exact L_X5_isLookingWord_31 hE hΓ hd σ _ h hk
    · rw [if_neg hc] at h
      refine fhW.blk fhPF fhLL hΓ [(.aload_n 0, 0), (.getfield 9, 0), (.bipush 19, 19)] (pc' := 25) (lv' := [(0, .ref 9)]) (st' := [.int (19 : Int32), .ref 3]) (σ' := σ) (by decide +kernel) rfl rfl rfl ?_
      refine fhW.callv hΓ mvX8_isWord ml_5_60 (t := 3) (ci := 8) (av := [.int (19 : Int32)]) (rest := []) (r := (some (.int (fhb (f_X8_isWord (19 : Int32) σ))))) (σ' := σ) (T_X8_isWord (E := fhEn Γ) (d := fhD Γ - 1) hE (by omega) (19 : Int32) σ) (by omega) (by decide +kernel) rfl rfl rfl (Nat.le_of_ble_eq_true rfl) rfl ?_
      show fhW fhYF Γ 28 [(0, .ref 9)] [.int (fhb (f_X8_isWord (19 : Int32) σ))] σ
      refine fhW.b_eq hΓ (tgt := 35) (show fhbk _ _ (.ifCond .eq (7)) _ = true by decide +kernel) (fun hc => ?_) (fun hc => ?_)
      · rw [if_neg hc] at h
        refine fhW.blk fhPF fhLL hΓ [(.iconst 0, 0)] (pc' := 36) (lv' := [(0, .ref 9)]) (st' := [.int (0 : Int32)]) (σ' := σ) (by decide +kernel) rfl rfl rfl ?_
        subst h
        exact fhW.zret (v := false) hΓ (by decide +kernel) hk
      · rw [if_pos hc] at h
        refine fhW.sub (lv' := []) [] rfl ?_
        exact L_X5_isLookingWord_31 hE hΓ hd σ _ h hk
set_option maxRecDepth 100000 in
theorem T_X5_isLookingWord {E : fhE} {d : Nat} (hE : fhEok fhYF E) (hd : 1 ≤ d)   (σ : fhM) : fhC fhYF E d miX5_isLookingWord [.ref 9] σ (some (.int (fhb (f_X5_isLookingWord σ)))) σ := by
  refine fhC.of (y := yX5_isLookingWord) (cc := cX5_isLookingWord) (nL := 1) (ret := (some .boolean)) 5 rfl (by decide +kernel) (Nat.le_of_ble_eq_true rfl) ?_
  intro Γ hΓ hR hD hEn
  subst hD; subst hEn
  exact L_X5_isLookingWord_E hE hΓ hd   σ _ rfl hR
set_option maxRecDepth 100000 in
set_option maxHeartbeats 4000000 in
theorem L_X8_lettersHere_E {Γ : fhX} (hE : fhEok fhYF (fhEn Γ)) (hΓ : fhOk fhYF 8 cX8_lettersHere 1 (some .int) Γ) (hd : 0 ≤ fhD Γ)   (σ : fhM) (o : Int32) (h : f_X8_lettersHere σ = o) (hk : (fun o => fhRet Γ (some (.int o)) σ) o) : fhW fhYF Γ 0 [(0, .ref 3)] [] σ := by
  unfold f_X8_lettersHere at h
  refine fhW.blk fhPF fhLL hΓ [(.aload_n 0, 0), (.getfield 75, 0), (.iconst 1, 1)] (pc' := 5) (lv' := [(0, .ref 3)]) (st' := [.int (1 : Int32), .int (σ.1 3 4)]) (σ' := σ) (by decide +kernel) rfl rfl rfl ?_
  refine fhW.i_ne hΓ (tgt := 15) (show fhbk _ _ (.if_icmp .ne (10)) _ = true by decide +kernel) (fun hc => ?_) (fun hc => ?_)
  · rw [if_neg hc] at h
    refine fhW.blk fhPF fhLL hΓ [(.iconst 0, 0)] (pc' := 16) (lv' := [(0, .ref 3)]) (st' := [.int (0 : Int32)]) (σ' := σ) (by decide +kernel) rfl rfl rfl ?_
    subst h
    exact fhW.iret hΓ (by decide +kernel) hk
  · rw [if_pos hc] at h
    refine fhW.blk fhPF fhLL hΓ [(.aload_n 0, 0), (.getfield 87, 0)] (pc' := 12) (lv' := [(0, .ref 3)]) (st' := [.int (σ.1 3 6)]) (σ' := σ) (by decide +kernel) rfl rfl rfl ?_
    refine fhW.goto hΓ (off := 4) (tgt := 16) (by decide +kernel) ?_
    subst h
    exact fhW.iret hΓ (by decide +kernel) hk
set_option maxRecDepth 100000 in
theorem T_X8_lettersHere {E : fhE} {d : Nat} (hE : fhEok fhYF E) (hd : 0 ≤ d)   (σ : fhM) : fhC fhYF E d miX8_lettersHere [.ref 3] σ (some (.int (f_X8_lettersHere σ))) σ := by
  refine fhC.of (y := yX8_lettersHere) (cc := cX8_lettersHere) (nL := 1) (ret := (some .int)) 8 rfl (by decide +kernel) (Nat.le_of_ble_eq_true rfl) ?_
  intro Γ hΓ hR hD hEn
  subst hD; subst hEn
  exact L_X8_lettersHere_E hE hΓ hd   σ _ rfl hR

