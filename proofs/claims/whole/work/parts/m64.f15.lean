set_option maxRecDepth 100000 in
set_option maxHeartbeats 4000000 in
theorem L_X11_later_43 {Γ : fhX} (hE : fhEok fhYF (fhEn Γ)) (hΓ : fhOk fhYF 11 cX11_later 3 (some .int) Γ) (hd : 5 ≤ fhD Γ) (s0 : Int32)  (σ : fhM) (o : Int32 × fhM) (h : f_X11_later_43 s0 σ = some o) (hk : (fun o => fhRet Γ (some (.int o.1)) o.2) o) : fhW fhYF Γ 43 [] [.int s0] σ := by
  unfold f_X11_later_43 at h
  refine fhW.calls hΓ msX11_one ml_11_233 (av := [.int s0]) (rest := []) (r := (some (.int (f_X11_one s0 σ)))) (σ' := σ) (T_X11_one (E := fhEn Γ) (d := fhD Γ - 1) hE (by omega) s0 σ) (by omega) (by decide +kernel) rfl (Nat.le_of_ble_eq_true rfl) rfl ?_
  show fhW fhYF Γ 46 [] [.int (f_X11_one s0 σ)] σ
  have e9 := Option.some.inj h
  subst e9
  exact fhW.iret hΓ (by decide +kernel) hk
set_option maxRecDepth 100000 in
set_option maxHeartbeats 4000000 in
theorem L_X11_later_E {Γ : fhX} (hE : fhEok fhYF (fhEn Γ)) (hΓ : fhOk fhYF 11 cX11_later 3 (some .int) Γ) (hd : 5 ≤ fhD Γ) (v1 : Int32) (v2 : Int32)  (σ : fhM) (o : Int32 × fhM) (h : f_X11_later v1 v2 σ = some o) (hk : (fun o => fhRet Γ (some (.int o.1)) o.2) o) : fhW fhYF Γ 0 [(0, .ref 0), (1, .int v1), (2, .int v2)] [] σ := by
  unfold f_X11_later at h
  refine fhW.blk fhPF fhLL hΓ [(.aload_n 0, 0), (.iload_n 1, 0)] (pc' := 2) (lv' := [(0, .ref 0), (1, .int v1), (2, .int v2)]) (st' := [.int v1, .ref 0]) (σ' := σ) (by decide +kernel) rfl rfl rfl ?_
  refine fhW.callv hΓ mvX11_isGuest ml_11_212 (t := 0) (ci := 11) (av := [.int v1]) (rest := []) (r := (some (.int (fhb (f_X11_isGuest v1 σ))))) (σ' := σ) (T_X11_isGuest (E := fhEn Γ) (d := fhD Γ - 1) hE (by omega) v1 σ) (by omega) (by decide +kernel) rfl rfl rfl (Nat.le_of_ble_eq_true rfl) rfl ?_
  show fhW fhYF Γ 5 [(0, .ref 0), (1, .int v1), (2, .int v2)] [.int (fhb (f_X11_isGuest v1 σ))] σ
  refine fhW.b_eq hΓ (tgt := 18) (show fhbk _ _ (.ifCond .eq (13)) _ = true by decide +kernel) (fun hc => ?_) (fun hc => ?_)
  · rw [if_neg hc] at h
    refine fhW.blk fhPF fhLL hΓ [(.iconst (-1), -1)] (pc' := 19) (lv' := [(0, .ref 0), (1, .int v1), (2, .int v2)]) (st' := [.int (-1 : Int32)]) (σ' := σ) (by decide +kernel) rfl rfl rfl ?_
    have e9 := Option.some.inj h
    subst e9
    exact fhW.iret hΓ (by decide +kernel) hk
  · rw [if_pos hc] at h
    refine fhW.blk fhPF fhLL hΓ [(.iload_n 2, 0)] (pc' := 9) (lv' := [(0, .ref 0), (1, .int v1), (2, .int v2)]) (st' := [.int v2]) (σ' := σ) (by decide +kernel) rfl rfl rfl ?_
    refine fhW.z_lt hΓ (tgt := 18) (show fhbk _ _ (.ifCond .lt (9)) _ = true by decide +kernel) (fun hc => ?_) (fun hc => ?_)
    · rw [if_pos hc] at h
      refine fhW.blk fhPF fhLL hΓ [(.iconst (-1), -1)] (pc' := 19) (lv' := [(0, .ref 0), (1, .int v1), (2, .int v2)]) (st' := [.int (-1 : Int32)]) (σ' := σ) (by decide +kernel) rfl rfl rfl ?_
      have e9 := Option.some.inj h
      subst e9
      exact fhW.iret hΓ (by decide +kernel) hk
    · rw [if_neg hc] at h
      refine fhW.blk fhPF fhLL hΓ [(.iload_n 2, 0), (.bipush 20, 20)] (pc' := 15) (lv' := [(0, .ref 0), (1, .int v1), (2, .int v2)]) (st' := [.int (20 : Int32), .int v2]) (σ' := σ) (by decide +kernel) rfl rfl rfl ?_
      refine fhW.i_le hΓ (tgt := 20) (show fhbk _ _ (.if_icmp .le (5)) _ = true by decide +kernel) (fun hc => ?_) (fun hc => ?_)
      · rw [if_pos hc] at h
        refine fhW.blk fhPF fhLL hΓ [(.aload_n 0, 0), (.getfield 72, 0)] (pc' := 24) (lv' := [(0, .ref 0), (1, .int v1), (2, .int v2)]) (st' := [.ref 56]) (σ' := σ) (by decide +kernel) rfl rfl rfl ?_
        obtain ⟨q1, hb1, h⟩ := Option.bind_eq_some_iff.mp h
        refine fhW.callv hΓ mvX4_lookAhead ml_11_275 (t := 56) (ci := 4) (av := []) (rest := []) (r := (some (.ref 57))) (σ' := q1) (T_X4_lookAhead (E := fhEn Γ) (d := fhD Γ - 1) hE (by omega) σ hb1) (by omega) (by decide +kernel) rfl rfl rfl (Nat.le_of_ble_eq_true rfl) rfl ?_
        show fhW fhYF Γ 27 [(0, .ref 0), (1, .int v1), (2, .int v2)] [.ref 57] q1
        refine fhW.blk fhPF fhLL hΓ [(.getfield 279, 0), (.iload_n 1, 0)] (pc' := 31) (lv' := [(0, .ref 0), (1, .int v1), (2, .int v2)]) (st' := [.int v1, .ref 62]) (σ' := q1) (by decide +kernel) rfl rfl rfl ?_
        refine fhW.callv hΓ mvX2_get ml_11_117 (t := 62) (ci := 2) (av := [.int v1]) (rest := []) (r := (some (.int (fcG q1 62 v1)))) (σ' := q1) (T_X2_get (E := fhEn Γ) (d := fhD Γ - 1) hE (by omega) 62 v1 rfl q1) (by omega) (by decide +kernel) rfl rfl rfl (Nat.le_of_ble_eq_true rfl) rfl ?_
        show fhW fhYF Γ 34 [(0, .ref 0), (1, .int v1), (2, .int v2)] [.int (fcG q1 62 v1)] q1
        refine fhW.blk fhPF fhLL hΓ [(.iload_n 2, 0)] (pc' := 35) (lv' := [(0, .ref 0), (1, .int v1), (2, .int v2)]) (st' := [.int v2, .int (fcG q1 62 v1)]) (σ' := q1) (by decide +kernel) rfl rfl rfl ?_
        refine fhW.i_gt hΓ (tgt := 42) (show fhbk _ _ (.if_icmp .gt (7)) _ = true by decide +kernel) (fun hc => ?_) (fun hc => ?_)
        · simp only [if_pos hc] at h
          refine fhW.blk fhPF fhLL hΓ [(.iconst 0, 0)] (pc' := 43) (lv' := [(0, .ref 0), (1, .int v1), (2, .int v2)]) (st' := [.int (0 : Int32)]) (σ' := q1) (by decide +kernel) rfl rfl rfl ?_
          refine fhW.sub (lv' := []) [] rfl ?_
          exact L_X11_later_43 hE hΓ hd (0 : Int32) q1 _ h hk
        · simp only [if_neg hc] at h
          refine fhW.blk fhPF fhLL hΓ [(.iconst 1, 1)] (pc' := 39) (lv' := [(0, .ref 0), (1, .int v1), (2, .int v2)]) (st' := [.int (1 : Int32)]) (σ' := q1) (by decide +kernel) rfl rfl rfl ?_
          refine fhW.goto hΓ (off := 4) (tgt := 43) (by decide +kernel) ?_
          refine fhW.sub (lv' := []) [] rfl ?_
          exact L_X11_later_43 hE hΓ hd (1 : Int32) q1 _ h hk
      · rw [if_neg hc] at h
        refine fhW.blk fhPF fhLL hΓ [(.iconst (-1), -1)] (pc' := 19) (lv' := [(0, .ref 0), (1, .int v1), (2, .int v2)]) (st' := [.int (-1 : Int32)]) (σ' := σ) (by decide +kernel) rfl rfl rfl ?_
        have e9 := Option.some.inj h
        subst e9
        exact fhW.iret hΓ (by decide +kernel) hk
set_option maxRecDepth 100000 in
theorem T_X11_later {E : fhE} {d : Nat} (hE : fhEok fhYF E) (hd : 5 ≤ d) (v1 : Int32) (v2 : Int32)  (σ : fhM) {o : Int32 × fhM} (h : f_X11_later v1 v2 σ = some o) : fhC fhYF E d miX11_later [.ref 0, .int v1, .int v2] σ (some (.int o.1)) o.2 := by
  refine fhC.of (y := yX11_later) (cc := cX11_later) (nL := 3) (ret := (some .int)) 11 rfl (by decide +kernel) (Nat.le_of_ble_eq_true rfl) ?_
  intro Γ hΓ hR hD hEn
  subst hD; subst hEn
  exact L_X11_later_E hE hΓ hd v1 v2  σ _ h hR
set_option maxRecDepth 100000 in
set_option maxHeartbeats 4000000 in
theorem L_X11_learns_E {Γ : fhX} (hE : fhEok fhYF (fhEn Γ)) (hΓ : fhOk fhYF 11 cX11_learns 3 (some .int) Γ) (hd : 5 ≤ fhD Γ) (v1 : Int32)  (σ : fhM) (o : Int32 × fhM) (h : f_X11_learns v1 σ = some o) (hk : (fun o => fhRet Γ (some (.int o.1)) o.2) o) : fhW fhYF Γ 0 [(0, .ref 0), (1, .int v1)] [] σ := by
  unfold f_X11_learns at h
  refine fhW.blk fhPF fhLL hΓ [(.aload_n 0, 0), (.iload_n 1, 0)] (pc' := 2) (lv' := [(0, .ref 0), (1, .int v1)]) (st' := [.int v1, .ref 0]) (σ' := σ) (by decide +kernel) rfl rfl rfl ?_
  refine fhW.callv hΓ mvX11_isGuest ml_11_212 (t := 0) (ci := 11) (av := [.int v1]) (rest := []) (r := (some (.int (fhb (f_X11_isGuest v1 σ))))) (σ' := σ) (T_X11_isGuest (E := fhEn Γ) (d := fhD Γ - 1) hE (by omega) v1 σ) (by omega) (by decide +kernel) rfl rfl rfl (Nat.le_of_ble_eq_true rfl) rfl ?_
  show fhW fhYF Γ 5 [(0, .ref 0), (1, .int v1)] [.int (fhb (f_X11_isGuest v1 σ))] σ
  refine fhW.b_ne hΓ (tgt := 10) (show fhbk _ _ (.ifCond .ne (5)) _ = true by decide +kernel) (fun hc => ?_) (fun hc => ?_)
  · rw [if_pos hc] at h
    refine fhW.blk fhPF fhLL hΓ [(.aload_n 0, 0), (.getfield 72, 0)] (pc' := 14) (lv' := [(0, .ref 0), (1, .int v1)]) (st' := [.ref 56]) (σ' := σ) (by decide +kernel) rfl rfl rfl ?_
    obtain ⟨q1, hb1, h⟩ := Option.bind_eq_some_iff.mp h
    refine fhW.callv hΓ mvX4_lookAhead ml_11_275 (t := 56) (ci := 4) (av := []) (rest := []) (r := (some (.ref 57))) (σ' := q1) (T_X4_lookAhead (E := fhEn Γ) (d := fhD Γ - 1) hE (by omega) σ hb1) (by omega) (by decide +kernel) rfl rfl rfl (Nat.le_of_ble_eq_true rfl) rfl ?_
    show fhW fhYF Γ 17 [(0, .ref 0), (1, .int v1)] [.ref 57] q1
    refine fhW.blk fhPF fhLL hΓ [(.getfield 279, 0), (.iload_n 1, 0)] (pc' := 21) (lv' := [(0, .ref 0), (1, .int v1)]) (st' := [.int v1, .ref 62]) (σ' := q1) (by decide +kernel) rfl rfl rfl ?_
    refine fhW.callv hΓ mvX2_get ml_11_117 (t := 62) (ci := 2) (av := [.int v1]) (rest := []) (r := (some (.int (fcG q1 62 v1)))) (σ' := q1) (T_X2_get (E := fhEn Γ) (d := fhD Γ - 1) hE (by omega) 62 v1 rfl q1) (by omega) (by decide +kernel) rfl rfl rfl (Nat.le_of_ble_eq_true rfl) rfl ?_
    show fhW fhYF Γ 24 [(0, .ref 0), (1, .int v1)] [.int (fcG q1 62 v1)] q1
    refine fhW.blk fhPF fhLL hΓ [(.istore_n 2, 0), (.iload_n 2, 0), (.bipush 20, 20)] (pc' := 28) (lv' := [(2, .int (fcG q1 62 v1)), (0, .ref 0), (1, .int v1)]) (st' := [.int (20 : Int32), .int (fcG q1 62 v1)]) (σ' := q1) (by decide +kernel) rfl rfl rfl ?_
    refine fhW.i_gt hΓ (tgt := 35) (show fhbk _ _ (.if_icmp .gt (7)) _ = true by decide +kernel) (fun hc => ?_) (fun hc => ?_)
    · rw [if_pos hc] at h
      refine fhW.blk fhPF fhLL hΓ [(.iconst (-1), -1)] (pc' := 36) (lv' := [(2, .int (fcG q1 62 v1)), (0, .ref 0), (1, .int v1)]) (st' := [.int (-1 : Int32)]) (σ' := q1) (by decide +kernel) rfl rfl rfl ?_
      have e9 := Option.some.inj h
      subst e9
      exact fhW.iret hΓ (by decide +kernel) hk
    · rw [if_neg hc] at h
      refine fhW.blk fhPF fhLL hΓ [(.iload_n 2, 0)] (pc' := 32) (lv' := [(2, .int (fcG q1 62 v1)), (0, .ref 0), (1, .int v1)]) (st' := [.int (fcG q1 62 v1)]) (σ' := q1) (by decide +kernel) rfl rfl rfl ?_
      refine fhW.goto hΓ (off := 4) (tgt := 36) (by decide +kernel) ?_
      have e9 := Option.some.inj h
      subst e9
      exact fhW.iret hΓ (by decide +kernel) hk
  · rw [if_neg hc] at h
    refine fhW.blk fhPF fhLL hΓ [(.iconst (-1), -1)] (pc' := 9) (lv' := [(0, .ref 0), (1, .int v1)]) (st' := [.int (-1 : Int32)]) (σ' := σ) (by decide +kernel) rfl rfl rfl ?_
    have e9 := Option.some.inj h
    subst e9
    exact fhW.iret hΓ (by decide +kernel) hk
set_option maxRecDepth 100000 in
theorem T_X11_learns {E : fhE} {d : Nat} (hE : fhEok fhYF E) (hd : 5 ≤ d) (v1 : Int32)  (σ : fhM) {o : Int32 × fhM} (h : f_X11_learns v1 σ = some o) : fhC fhYF E d miX11_learns [.ref 0, .int v1] σ (some (.int o.1)) o.2 := by
  refine fhC.of (y := yX11_learns) (cc := cX11_learns) (nL := 3) (ret := (some .int)) 11 rfl (by decide +kernel) (Nat.le_of_ble_eq_true rfl) ?_
  intro Γ hΓ hR hD hEn
  subst hD; subst hEn
  exact L_X11_learns_E hE hΓ hd v1  σ _ h hR
set_option maxRecDepth 100000 in
set_option maxHeartbeats 4000000 in
theorem L_X11_rests_E {Γ : fhX} (hE : fhEok fhYF (fhEn Γ)) (hΓ : fhOk fhYF 11 cX11_rests 2 (some .int) Γ) (hd : 5 ≤ fhD Γ)   (σ : fhM) (o : Int32 × fhM) (h : f_X11_rests σ = some o) (hk : (fun o => fhRet Γ (some (.int o.1)) o.2) o) : fhW fhYF Γ 0 [(0, .ref 0)] [] σ := by
  unfold f_X11_rests at h
  refine fhW.blk fhPF fhLL hΓ [(.aload_n 0, 0), (.getfield 145, 0)] (pc' := 4) (lv' := [(0, .ref 0)]) (st' := [.int (σ.1 0 8)]) (σ' := σ) (by decide +kernel) rfl rfl rfl ?_
  refine fhW.z_ne hΓ (tgt := 9) (show fhbk _ _ (.ifCond .ne (5)) _ = true by decide +kernel) (fun hc => ?_) (fun hc => ?_)
  · rw [if_neg hc] at h
    refine fhW.blk fhPF fhLL hΓ [(.aload_n 0, 0), (.getfield 72, 0)] (pc' := 13) (lv' := [(0, .ref 0)]) (st' := [.ref 56]) (σ' := σ) (by decide +kernel) rfl rfl rfl ?_
    obtain ⟨q1, hb1, h⟩ := Option.bind_eq_some_iff.mp h
    refine fhW.callv hΓ mvX4_lookAhead ml_11_275 (t := 56) (ci := 4) (av := []) (rest := []) (r := (some (.ref 57))) (σ' := q1) (T_X4_lookAhead (E := fhEn Γ) (d := fhD Γ - 1) hE (by omega) σ hb1) (by omega) (by decide +kernel) rfl rfl rfl (Nat.le_of_ble_eq_true rfl) rfl ?_
    show fhW fhYF Γ 16 [(0, .ref 0)] [.ref 57] q1
    refine fhW.blk fhPF fhLL hΓ [(.getfield 284, 0), (.istore_n 1, 0), (.iload_n 1, 0), (.bipush 20, 20)] (pc' := 23) (lv' := [(1, .int (q1.1 57 5)), (0, .ref 0)]) (st' := [.int (20 : Int32), .int (q1.1 57 5)]) (σ' := q1) (by decide +kernel) rfl rfl rfl ?_
    refine fhW.i_gt hΓ (tgt := 30) (show fhbk _ _ (.if_icmp .gt (7)) _ = true by decide +kernel) (fun hc => ?_) (fun hc => ?_)
    · rw [if_pos hc] at h
      refine fhW.blk fhPF fhLL hΓ [(.iconst (-1), -1)] (pc' := 31) (lv' := [(1, .int (q1.1 57 5)), (0, .ref 0)]) (st' := [.int (-1 : Int32)]) (σ' := q1) (by decide +kernel) rfl rfl rfl ?_
      have e9 := Option.some.inj h
      subst e9
      exact fhW.iret hΓ (by decide +kernel) hk
    · rw [if_neg hc] at h
      refine fhW.blk fhPF fhLL hΓ [(.iload_n 1, 0)] (pc' := 27) (lv' := [(1, .int (q1.1 57 5)), (0, .ref 0)]) (st' := [.int (q1.1 57 5)]) (σ' := q1) (by decide +kernel) rfl rfl rfl ?_
      refine fhW.goto hΓ (off := 4) (tgt := 31) (by decide +kernel) ?_
      have e9 := Option.some.inj h
      subst e9
      exact fhW.iret hΓ (by decide +kernel) hk
  · rw [if_pos hc] at h
    refine fhW.blk fhPF fhLL hΓ [(.iconst (-1), -1)] (pc' := 8) (lv' := [(0, .ref 0)]) (st' := [.int (-1 : Int32)]) (σ' := σ) (by decide +kernel) rfl rfl rfl ?_
    have e9 := Option.some.inj h
    subst e9
    exact fhW.iret hΓ (by decide +kernel) hk
set_option maxRecDepth 100000 in
theorem T_X11_rests {E : fhE} {d : Nat} (hE : fhEok fhYF E) (hd : 5 ≤ d)   (σ : fhM) {o : Int32 × fhM} (h : f_X11_rests σ = some o) : fhC fhYF E d miX11_rests [.ref 0] σ (some (.int o.1)) o.2 := by
  refine fhC.of (y := yX11_rests) (cc := cX11_rests) (nL := 2) (ret := (some .int)) 11 rfl (by decide +kernel) (Nat.le_of_ble_eq_true rfl) ?_
  intro Γ hΓ hR hD hEn
  subst hD; subst hEn
  exact L_X11_rests_E hE hΓ hd   σ _ h hR
set_option maxRecDepth 100000 in
set_option maxHeartbeats 4000000 in
theorem L_X4_gatherDoubts_91 {Γ : fhX} (hE : fhEok fhYF (fhEn Γ)) (hΓ : fhOk fhYF 4 cX4_gatherDoubts 5 none Γ) (hd : 3 ≤ fhD Γ) (v1 : Int32) (v2 : Nat) (v3 : Int32) (hv2 : fhiC v2 = true) (σ : fhM) (o : (Int32 × fhM) ⊕ (fhM)) (h : f_X4_gatherDoubts_91 v1 v2 v3 σ = some o) (hk : (fhK (fun x => fhW fhYF Γ 6 [(0, .ref 56), (1, .int v1), (2, .ref v2), (3, .int x.1)] [] x.2) (fun o => fhRet Γ none o)) o) : fhW fhYF Γ 91 [(0, .ref 56), (1, .int v1), (2, .ref v2), (3, .int v3)] [] σ := by
  unfold f_X4_gatherDoubts_91 at h
  refine fhW.blk fhPF fhLL hΓ [(.iinc 3 1, 1)] (pc' := 94) (lv' := [(3, .int (v3 + (1 : Int32))), (0, .ref 56), (1, .int v1), (2, .ref v2)]) (st' := []) (σ' := σ) (by decide +kernel) rfl rfl rfl ?_
  refine fhW.goto hΓ (off := (-88)) (tgt := 6) (by decide +kernel) ?_
  refine fhW.sub (lv' := [(0, .ref 56), (1, .int v1), (2, .ref v2), (3, .int (v3 + (1 : Int32)))]) [1, 2, 3, 0] rfl ?_
  have e9 := Option.some.inj h
  subst e9
  exact hk
set_option maxRecDepth 100000 in
set_option maxHeartbeats 4000000 in
theorem L_X4_gatherDoubts_6 {Γ : fhX} (hE : fhEok fhYF (fhEn Γ)) (hΓ : fhOk fhYF 4 cX4_gatherDoubts 5 none Γ) (hd : 3 ≤ fhD Γ) (v1 : Int32) (v2 : Nat) (v3 : Int32) (hv2 : fhiC v2 = true) (σ : fhM) (o : (Int32 × fhM) ⊕ (fhM)) (h : f_X4_gatherDoubts_6 v1 v2 v3 σ = some o) (hk : (fhK (fun x => fhW fhYF Γ 6 [(0, .ref 56), (1, .int v1), (2, .ref v2), (3, .int x.1)] [] x.2) (fun o => fhRet Γ none o)) o) : fhW fhYF Γ 6 [(0, .ref 56), (1, .int v1), (2, .ref v2), (3, .int v3)] [] σ := by
  unfold f_X4_gatherDoubts_6 at h
  refine fhW.blk fhPF fhLL hΓ [(.iload_n 3, 0), (.aload_n 0, 0), (.getfield 63, 0)] (pc' := 11) (lv' := [(0, .ref 56), (1, .int v1), (2, .ref v2), (3, .int v3)]) (st' := [.int (σ.1 56 8), .int v3]) (σ' := σ) (by decide +kernel) rfl rfl rfl ?_
  refine fhW.i_ge hΓ (tgt := 97) (show fhbk _ _ (.if_icmp .ge (86)) _ = true by decide +kernel) (fun hc => ?_) (fun hc => ?_)
  · rw [if_pos hc] at h
    have e9 := Option.some.inj h
    subst e9
    exact fhW.vret hΓ (by decide +kernel) hk
  · rw [if_neg hc] at h
    refine fhW.blk fhPF fhLL hΓ [(.aload_n 0, 0), (.getfield 36, 0), (.iload_n 3, 0)] (pc' := 19) (lv' := [(0, .ref 56), (1, .int v1), (2, .ref v2), (3, .int v3)]) (st' := [.int v3, .ref 72]) (σ' := σ) (by decide +kernel) rfl rfl rfl ?_
    refine fhW.callv hΓ mvX2_get ml_4_55 (t := 72) (ci := 2) (av := [.int v3]) (rest := []) (r := (some (.int (fcG σ 72 v3)))) (σ' := σ) (T_X2_get (E := fhEn Γ) (d := fhD Γ - 1) hE (by omega) 72 v3 rfl σ) (by omega) (by decide +kernel) rfl rfl rfl (Nat.le_of_ble_eq_true rfl) rfl ?_
    show fhW fhYF Γ 22 [(0, .ref 56), (1, .int v1), (2, .ref v2), (3, .int v3)] [.int (fcG σ 72 v3)] σ
    refine fhW.blk fhPF fhLL hΓ [(.istore 4, 0), (.aload_n 0, 0), (.iload_n 1, 0), (.iload 4, 0)] (pc' := 28) (lv' := [(4, .int (fcG σ 72 v3)), (0, .ref 56), (1, .int v1), (2, .ref v2), (3, .int v3)]) (st' := [.int (fcG σ 72 v3), .int v1, .ref 56]) (σ' := σ) (by decide +kernel) rfl rfl rfl ?_
    refine fhW.callv hΓ mvX4_isRowOf ml_4_90 (t := 56) (ci := 4) (av := [.int v1, .int (fcG σ 72 v3)]) (rest := []) (r := (some (.int (fhb (f_X4_isRowOf v1 (fcG σ 72 v3) σ))))) (σ' := σ) (T_X4_isRowOf (E := fhEn Γ) (d := fhD Γ - 1) hE (by omega) v1 (fcG σ 72 v3) σ) (by omega) (by decide +kernel) rfl rfl rfl (Nat.le_of_ble_eq_true rfl) rfl ?_
    show fhW fhYF Γ 31 [(4, .int (fcG σ 72 v3)), (0, .ref 56), (1, .int v1), (2, .ref v2), (3, .int v3)] [.int (fhb (f_X4_isRowOf v1 (fcG σ 72 v3) σ))] σ
    refine fhW.b_eq hΓ (tgt := 91) (show fhbk _ _ (.ifCond .eq (60)) _ = true by decide +kernel) (fun hc => ?_) (fun hc => ?_)
    · rw [if_neg hc] at h
      refine fhW.sub (lv' := [(0, .ref 56), (1, .int v1), (2, .ref v2), (3, .int v3)]) [1, 2, 3, 4] rfl ?_
      exact L_X4_gatherDoubts_91 hE hΓ hd v1 v2 v3 hv2 σ _ h hk
    · rw [if_pos hc] at h
      refine fhW.blk fhPF fhLL hΓ [(.aload_n 0, 0), (.getfield 42, 0), (.iload 4, 0), (.iload_n 1, 0)] (pc' := 41) (lv' := [(4, .int (fcG σ 72 v3)), (0, .ref 56), (1, .int v1), (2, .ref v2), (3, .int v3)]) (st' := [.int v1, .int (fcG σ 72 v3), .ref 39]) (σ' := σ) (by decide +kernel) rfl rfl rfl ?_
      refine fhW.callv hΓ mvX9_markOf ml_4_94 (t := 39) (ci := 9) (av := [.int (fcG σ 72 v3), .int v1]) (rest := []) (r := (some (.int (f_X9_markOf (fcG σ 72 v3) v1 σ)))) (σ' := σ) (T_X9_markOf (E := fhEn Γ) (d := fhD Γ - 1) hE (by omega) (fcG σ 72 v3) v1 σ) (by omega) (by decide +kernel) rfl rfl rfl (Nat.le_of_ble_eq_true rfl) rfl ?_
      show fhW fhYF Γ 44 [(4, .int (fcG σ 72 v3)), (0, .ref 56), (1, .int v1), (2, .ref v2), (3, .int v3)] [.int (f_X9_markOf (fcG σ 72 v3) v1 σ)] σ
      refine fhW.blk fhPF fhLL hΓ [(.aload_n 0, 0), (.getfield 42, 0), (.aload_n 0, 0), (.getfield 69, 0), (.iload_n 1, 0)] (pc' := 53) (lv' := [(4, .int (fcG σ 72 v3)), (0, .ref 56), (1, .int v1), (2, .ref v2), (3, .int v3)]) (st' := [.int v1, .int (σ.1 56 9), .ref 39, .int (f_X9_markOf (fcG σ 72 v3) v1 σ)]) (σ' := σ) (by decide +kernel) rfl rfl rfl ?_
      refine fhW.callv hΓ mvX9_markOf ml_4_94 (t := 39) (ci := 9) (av := [.int (σ.1 56 9), .int v1]) (rest := [.int (f_X9_markOf (fcG σ 72 v3) v1 σ)]) (r := (some (.int (f_X9_markOf (σ.1 56 9) v1 σ)))) (σ' := σ) (T_X9_markOf (E := fhEn Γ) (d := fhD Γ - 1) hE (by omega) (σ.1 56 9) v1 σ) (by omega) (by decide +kernel) rfl rfl rfl (Nat.le_of_ble_eq_true rfl) rfl ?_
      show fhW fhYF Γ 56 [(4, .int (fcG σ 72 v3)), (0, .ref 56), (1, .int v1), (2, .ref v2), (3, .int v3)] [.int (f_X9_markOf (σ.1 56 9) v1 σ), .int (f_X9_markOf (fcG σ 72 v3) v1 σ)] σ
      refine fhW.i_eq hΓ (tgt := 91) (show fhbk _ _ (.if_icmp .eq (35)) _ = true by decide +kernel) (fun hc => ?_) (fun hc => ?_)
      · rw [if_pos hc] at h
        refine fhW.sub (lv' := [(0, .ref 56), (1, .int v1), (2, .ref v2), (3, .int v3)]) [1, 2, 3, 4] rfl ?_
        exact L_X4_gatherDoubts_91 hE hΓ hd v1 v2 v3 hv2 σ _ h hk
      · rw [if_neg hc] at h
        refine fhW.blk fhPF fhLL hΓ [(.aload_n 2, 0), (.aload_n 0, 0), (.getfield 42, 0), (.getfield 129, 0), (.iload 4, 0)] (pc' := 69) (lv' := [(4, .int (fcG σ 72 v3)), (0, .ref 56), (1, .int v1), (2, .ref v2), (3, .int v3)]) (st' := [.int (fcG σ 72 v3), .ref 52, .ref v2]) (σ' := σ) (by decide +kernel) rfl rfl rfl ?_
        refine fhW.callv hΓ mvX2_get ml_4_55 (t := 52) (ci := 2) (av := [.int (fcG σ 72 v3)]) (rest := [.ref v2]) (r := (some (.int (fcG σ 52 (fcG σ 72 v3))))) (σ' := σ) (T_X2_get (E := fhEn Γ) (d := fhD Γ - 1) hE (by omega) 52 (fcG σ 72 v3) rfl σ) (by omega) (by decide +kernel) rfl rfl rfl (Nat.le_of_ble_eq_true rfl) rfl ?_
        show fhW fhYF Γ 72 [(4, .int (fcG σ 72 v3)), (0, .ref 56), (1, .int v1), (2, .ref v2), (3, .int v3)] [.int (fcG σ 52 (fcG σ 72 v3)), .ref v2] σ
        refine fhW.blk fhPF fhLL hΓ [(.aload_n 0, 0), (.getfield 42, 0), (.getfield 129, 0), (.aload_n 0, 0), (.getfield 69, 0)] (pc' := 83) (lv' := [(4, .int (fcG σ 72 v3)), (0, .ref 56), (1, .int v1), (2, .ref v2), (3, .int v3)]) (st' := [.int (σ.1 56 9), .ref 52, .int (fcG σ 52 (fcG σ 72 v3)), .ref v2]) (σ' := σ) (by decide +kernel) rfl rfl rfl ?_
        refine fhW.callv hΓ mvX2_get ml_4_55 (t := 52) (ci := 2) (av := [.int (σ.1 56 9)]) (rest := [.int (fcG σ 52 (fcG σ 72 v3)), .ref v2]) (r := (some (.int (fcG σ 52 (σ.1 56 9))))) (σ' := σ) (T_X2_get (E := fhEn Γ) (d := fhD Γ - 1) hE (by omega) 52 (σ.1 56 9) rfl σ) (by omega) (by decide +kernel) rfl rfl rfl (Nat.le_of_ble_eq_true rfl) rfl ?_
        show fhW fhYF Γ 86 [(4, .int (fcG σ 72 v3)), (0, .ref 56), (1, .int v1), (2, .ref v2), (3, .int v3)] [.int (fcG σ 52 (σ.1 56 9)), .int (fcG σ 52 (fcG σ 72 v3)), .ref v2] σ
        refine fhW.blk fhPF fhLL hΓ [(.ixor, 0), (.iconst 1, 1)] (pc' := 88) (lv' := [(4, .int (fcG σ 72 v3)), (0, .ref 56), (1, .int v1), (2, .ref v2), (3, .int v3)]) (st' := [.int (1 : Int32), .int ((fcG σ 52 (fcG σ 72 v3)) ^^^ (fcG σ 52 (σ.1 56 9))), .ref v2]) (σ' := σ) (by decide +kernel) rfl rfl rfl ?_
        refine fhW.callv hΓ mvX2_put ml_4_59 (t := v2) (ci := 2) (av := [.int ((fcG σ 52 (fcG σ 72 v3)) ^^^ (fcG σ 52 (σ.1 56 9))), .int (1 : Int32)]) (rest := []) (r := none) (σ' := (fcP σ v2 ((fcG σ 52 (fcG σ 72 v3)) ^^^ (fcG σ 52 (σ.1 56 9))) (1 : Int32))) (T_X2_put (E := fhEn Γ) (d := fhD Γ - 1) hE (by omega) v2 ((fcG σ 52 (fcG σ 72 v3)) ^^^ (fcG σ 52 (σ.1 56 9))) (1 : Int32) hv2 σ) (by omega) (by decide +kernel) rfl (fhiC_g hv2) rfl (Nat.le_of_ble_eq_true rfl) rfl ?_
        show fhW fhYF Γ 91 [(4, .int (fcG σ 72 v3)), (0, .ref 56), (1, .int v1), (2, .ref v2), (3, .int v3)] [] (fcP σ v2 ((fcG σ 52 (fcG σ 72 v3)) ^^^ (fcG σ 52 (σ.1 56 9))) (1 : Int32))
        refine fhW.sub (lv' := [(0, .ref 56), (1, .int v1), (2, .ref v2), (3, .int v3)]) [1, 2, 3, 4] rfl ?_
        exact L_X4_gatherDoubts_91 hE hΓ hd v1 v2 v3 hv2 (fcP σ v2 ((fcG σ 52 (fcG σ 72 v3)) ^^^ (fcG σ 52 (σ.1 56 9))) (1 : Int32)) _ h hk
set_option maxRecDepth 100000 in
set_option maxHeartbeats 4000000 in
theorem L_X4_gatherDoubts_E {Γ : fhX} (hE : fhEok fhYF (fhEn Γ)) (hΓ : fhOk fhYF 4 cX4_gatherDoubts 5 none Γ) (hd : 3 ≤ fhD Γ) (v1 : Int32) (v2 : Nat) (hv2 : fhiC v2 = true) (σ : fhM) (o : fhM) (h : f_X4_gatherDoubts v1 v2 σ = some o) (hk : (fun o => fhRet Γ none o) o) : fhW fhYF Γ 0 [(0, .ref 56), (1, .int v1), (2, .ref v2)] [] σ := by
  unfold f_X4_gatherDoubts at h
  refine fhW.blk fhPF fhLL hΓ [(.aload_n 2, 0)] (pc' := 1) (lv' := [(0, .ref 56), (1, .int v1), (2, .ref v2)]) (st' := [.ref v2]) (σ' := σ) (by decide +kernel) rfl rfl rfl ?_
  refine fhW.callv hΓ mvX2_wipe ml_4_126 (t := v2) (ci := 2) (av := []) (rest := []) (r := none) (σ' := (fcW σ v2)) (T_X2_wipe (E := fhEn Γ) (d := fhD Γ - 1) hE (by omega) v2 hv2 σ) (by omega) (by decide +kernel) rfl (fhiC_g hv2) rfl (Nat.le_of_ble_eq_true rfl) rfl ?_
  show fhW fhYF Γ 4 [(0, .ref 56), (1, .int v1), (2, .ref v2)] [] (fcW σ v2)
  refine fhW.blk fhPF fhLL hΓ [(.iconst 0, 0), (.istore_n 3, 0)] (pc' := 6) (lv' := [(3, .int (0 : Int32)), (0, .ref 56), (1, .int v1), (2, .ref v2)]) (st' := []) (σ' := (fcW σ v2)) (by decide +kernel) rfl rfl rfl ?_
  refine fhW.sub (lv' := [(0, .ref 56), (1, .int v1), (2, .ref v2), (3, .int (0 : Int32))]) [1, 2, 3, 0] rfl ?_
  exact fhlp_ok (W := (fun x => fhW fhYF Γ 6 [(0, .ref 56), (1, .int v1), (2, .ref v2), (3, .int x.1)] [] x.2)) (B := (fun o => fhRet Γ none o)) (fun x o h hk => L_X4_gatherDoubts_6 hE hΓ hd v1 v2 x.1 hv2 x.2 o h hk) ((0 : Int32), (fcW σ v2)) _ h hk
set_option maxRecDepth 100000 in
theorem T_X4_gatherDoubts {E : fhE} {d : Nat} (hE : fhEok fhYF E) (hd : 3 ≤ d) (v1 : Int32) (v2 : Nat) (hv2 : fhiC v2 = true) (σ : fhM) {o : fhM} (h : f_X4_gatherDoubts v1 v2 σ = some o) : fhC fhYF E d miX4_gatherDoubts [.ref 56, .int v1, .ref v2] σ none o := by
  refine fhC.of (y := yX4_gatherDoubts) (cc := cX4_gatherDoubts) (nL := 5) (ret := none) 4 rfl (by decide +kernel) (Nat.le_of_ble_eq_true rfl) ?_
  intro Γ hΓ hR hD hEn
  subst hD; subst hEn
  exact L_X4_gatherDoubts_E hE hΓ hd v1 v2 hv2 σ _ h hR
set_option maxRecDepth 100000 in
set_option maxHeartbeats 4000000 in
theorem L_X4_isCleared_31 {Γ : fhX} (hE : fhEok fhYF (fhEn Γ)) (hΓ : fhOk fhYF 4 cX4_isCleared 4 (some .boolean) Γ) (hd : 1 ≤ fhD Γ) (v1 : Nat) (v2 : Int32) (v3 : Int32) (hv1 : fhiC v1 = true) (σ : fhM) (o : (Int32) ⊕ (Bool)) (h : f_X4_isCleared_31 v1 v2 v3 σ = some o) (hk : (fhK (fun x => fhW fhYF Γ 2 [(0, .ref 56), (1, .ref v1), (2, .int v2), (3, .int x)] [] σ) (fun o => fhRet Γ (some (.int (fhb o))) σ)) o) : fhW fhYF Γ 31 [(0, .ref 56), (1, .ref v1), (2, .int v2), (3, .int v3)] [] σ := by
  unfold f_X4_isCleared_31 at h
  refine fhW.blk fhPF fhLL hΓ [(.iinc 3 1, 1)] (pc' := 34) (lv' := [(3, .int (v3 + (1 : Int32))), (0, .ref 56), (1, .ref v1), (2, .int v2)]) (st' := []) (σ' := σ) (by decide +kernel) rfl rfl rfl ?_
  refine fhW.goto hΓ (off := (-32)) (tgt := 2) (by decide +kernel) ?_
  refine fhW.sub (lv' := [(0, .ref 56), (1, .ref v1), (2, .int v2), (3, .int (v3 + (1 : Int32)))]) [1, 2, 3, 0] rfl ?_
  have e9 := Option.some.inj h
  subst e9
  exact hk
set_option maxRecDepth 100000 in
set_option maxHeartbeats 4000000 in
theorem L_X4_isCleared_2 {Γ : fhX} (hE : fhEok fhYF (fhEn Γ)) (hΓ : fhOk fhYF 4 cX4_isCleared 4 (some .boolean) Γ) (hd : 1 ≤ fhD Γ) (v1 : Nat) (v2 : Int32) (v3 : Int32) (hv1 : fhiC v1 = true) (σ : fhM) (o : (Int32) ⊕ (Bool)) (h : f_X4_isCleared_2 v1 v2 v3 σ = some o) (hk : (fhK (fun x => fhW fhYF Γ 2 [(0, .ref 56), (1, .ref v1), (2, .int v2), (3, .int x)] [] σ) (fun o => fhRet Γ (some (.int (fhb o))) σ)) o) : fhW fhYF Γ 2 [(0, .ref 56), (1, .ref v1), (2, .int v2), (3, .int v3)] [] σ := by
  unfold f_X4_isCleared_2 at h
  refine fhW.blk fhPF fhLL hΓ [(.iload_n 3, 0), (.iconst 1, 1), (.aload_n 0, 0), (.getfield 42, 0), (.getfield 114, 0), (.ishl, 0)] (pc' := 12) (lv' := [(0, .ref 56), (1, .ref v1), (2, .int v2), (3, .int v3)]) (st' := [.int ((1 : Int32) <<< ((σ.1 39 10) &&& 31)), .int v3]) (σ' := σ) (by decide +kernel) rfl rfl rfl ?_
  refine fhW.i_ge hΓ (tgt := 37) (show fhbk _ _ (.if_icmp .ge (25)) _ = true by decide +kernel) (fun hc => ?_) (fun hc => ?_)
  · rw [if_pos hc] at h
    refine fhW.blk fhPF fhLL hΓ [(.iconst 1, 1)] (pc' := 38) (lv' := [(0, .ref 56), (1, .ref v1), (2, .int v2), (3, .int v3)]) (st' := [.int (1 : Int32)]) (σ' := σ) (by decide +kernel) rfl rfl rfl ?_
    have e9 := Option.some.inj h
    subst e9
    exact fhW.zret (v := true) hΓ (by decide +kernel) hk
  · rw [if_neg hc] at h
    refine fhW.blk fhPF fhLL hΓ [(.aload_n 1, 0), (.iload_n 3, 0)] (pc' := 17) (lv' := [(0, .ref 56), (1, .ref v1), (2, .int v2), (3, .int v3)]) (st' := [.int v3, .ref v1]) (σ' := σ) (by decide +kernel) rfl rfl rfl ?_
    refine fhW.callv hΓ mvX2_get ml_4_55 (t := v1) (ci := 2) (av := [.int v3]) (rest := []) (r := (some (.int (fcG σ v1 v3)))) (σ' := σ) (T_X2_get (E := fhEn Γ) (d := fhD Γ - 1) hE (by omega) v1 v3 hv1 σ) (by omega) (by decide +kernel) rfl (fhiC_g hv1) rfl (Nat.le_of_ble_eq_true rfl) rfl ?_
    show fhW fhYF Γ 20 [(0, .ref 56), (1, .ref v1), (2, .int v2), (3, .int v3)] [.int (fcG σ v1 v3)] σ
    refine fhW.z_eq hΓ (tgt := 31) (show fhbk _ _ (.ifCond .eq (11)) _ = true by decide +kernel) (fun hc => ?_) (fun hc => ?_)
    · rw [if_pos hc] at h
      refine fhW.sub (lv' := [(0, .ref 56), (1, .ref v1), (2, .int v2), (3, .int v3)]) [0, 1, 2, 3] rfl ?_
      exact L_X4_isCleared_31 hE hΓ hd v1 v2 v3 hv1 σ _ h hk
    · rw [if_neg hc] at h
      refine fhW.blk fhPF fhLL hΓ [(.iload_n 3, 0), (.iload_n 2, 0), (.iand, 0)] (pc' := 26) (lv' := [(0, .ref 56), (1, .ref v1), (2, .int v2), (3, .int v3)]) (st' := [.int (v3 &&& v2)]) (σ' := σ) (by decide +kernel) rfl rfl rfl ?_
      refine fhW.z_ne hΓ (tgt := 31) (show fhbk _ _ (.ifCond .ne (5)) _ = true by decide +kernel) (fun hc => ?_) (fun hc => ?_)
      · rw [if_neg hc] at h
        refine fhW.sub (lv' := [(0, .ref 56), (1, .ref v1), (2, .int v2), (3, .int v3)]) [0, 1, 2, 3] rfl ?_
        exact L_X4_isCleared_31 hE hΓ hd v1 v2 v3 hv1 σ _ h hk
      · rw [if_pos hc] at h
        refine fhW.blk fhPF fhLL hΓ [(.iconst 0, 0)] (pc' := 30) (lv' := [(0, .ref 56), (1, .ref v1), (2, .int v2), (3, .int v3)]) (st' := [.int (0 : Int32)]) (σ' := σ) (by decide +kernel) rfl rfl rfl ?_
        have e9 := Option.some.inj h
        subst e9
        exact fhW.zret (v := false) hΓ (by decide +kernel) hk
set_option maxRecDepth 100000 in
set_option maxHeartbeats 4000000 in
theorem L_X4_isCleared_E {Γ : fhX} (hE : fhEok fhYF (fhEn Γ)) (hΓ : fhOk fhYF 4 cX4_isCleared 4 (some .boolean) Γ) (hd : 1 ≤ fhD Γ) (v1 : Nat) (v2 : Int32) (hv1 : fhiC v1 = true) (σ : fhM) (o : Bool) (h : f_X4_isCleared v1 v2 σ = some o) (hk : (fun o => fhRet Γ (some (.int (fhb o))) σ) o) : fhW fhYF Γ 0 [(0, .ref 56), (1, .ref v1), (2, .int v2)] [] σ := by
  unfold f_X4_isCleared at h
  refine fhW.blk fhPF fhLL hΓ [(.iconst 0, 0), (.istore_n 3, 0)] (pc' := 2) (lv' := [(3, .int (0 : Int32)), (0, .ref 56), (1, .ref v1), (2, .int v2)]) (st' := []) (σ' := σ) (by decide +kernel) rfl rfl rfl ?_
  refine fhW.sub (lv' := [(0, .ref 56), (1, .ref v1), (2, .int v2), (3, .int (0 : Int32))]) [1, 2, 3, 0] rfl ?_
  exact fhlp_ok (W := (fun x => fhW fhYF Γ 2 [(0, .ref 56), (1, .ref v1), (2, .int v2), (3, .int x)] [] σ)) (B := (fun o => fhRet Γ (some (.int (fhb o))) σ)) (fun x o h hk => L_X4_isCleared_2 hE hΓ hd v1 v2 x hv1 σ o h hk) (0 : Int32) _ h hk
set_option maxRecDepth 100000 in
theorem T_X4_isCleared {E : fhE} {d : Nat} (hE : fhEok fhYF E) (hd : 1 ≤ d) (v1 : Nat) (v2 : Int32) (hv1 : fhiC v1 = true) (σ : fhM) {o : Bool} (h : f_X4_isCleared v1 v2 σ = some o) : fhC fhYF E d miX4_isCleared [.ref 56, .ref v1, .int v2] σ (some (.int (fhb o))) σ := by
  refine fhC.of (y := yX4_isCleared) (cc := cX4_isCleared) (nL := 4) (ret := (some .boolean)) 4 rfl (by decide +kernel) (Nat.le_of_ble_eq_true rfl) ?_
  intro Γ hΓ hR hD hEn
  subst hD; subst hEn
  exact L_X4_isCleared_E hE hΓ hd v1 v2 hv1 σ _ h hR

