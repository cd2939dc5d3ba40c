set_option maxRecDepth 100000 in
set_option maxHeartbeats 4000000 in
theorem L_X4_marksHeld_47 {Γ : fhX} (hE : fhEok fhYF (fhEn Γ)) (hΓ : fhOk fhYF 4 cX4_marksHeld 5 (some .int) Γ) (hd : 3 ≤ fhD Γ) (v1 : Int32) (v2 : Int32) (v3 : Int32)  (σ : fhM) (o : (Int32 × Int32) ⊕ (Int32)) (h : f_X4_marksHeld_47 v1 v2 v3 σ = some o) (hk : (fhK (fun x => fhW fhYF Γ 4 [(0, .ref 56), (1, .int v1), (2, .int x.1), (3, .int x.2)] [] σ) (fun o => fhRet Γ (some (.int o)) σ)) o) : fhW fhYF Γ 47 [(0, .ref 56), (1, .int v1), (2, .int v2), (3, .int v3)] [] σ := by
  unfold f_X4_marksHeld_47 at h
  refine fhW.blk fhPF fhLL hΓ [(.iinc 3 1, 1)] (pc' := 50) (lv' := [(3, .int (v3 + (1 : Int32))), (0, .ref 56), (1, .int v1), (2, .int v2)]) (st' := []) (σ' := σ) (by decide +kernel) rfl rfl rfl ?_
  refine fhW.goto hΓ (off := (-46)) (tgt := 4) (by decide +kernel) ?_
  refine fhW.sub (lv' := [(0, .ref 56), (1, .int v1), (2, .int v2), (3, .int (v3 + (1 : Int32)))]) [1, 2, 3, 0] rfl ?_
  have e9 := Option.some.inj h
  subst e9
  exact hk
set_option maxRecDepth 100000 in
set_option maxHeartbeats 4000000 in
theorem L_X4_marksHeld_4 {Γ : fhX} (hE : fhEok fhYF (fhEn Γ)) (hΓ : fhOk fhYF 4 cX4_marksHeld 5 (some .int) Γ) (hd : 3 ≤ fhD Γ) (v1 : Int32) (v2 : Int32) (v3 : Int32)  (σ : fhM) (o : (Int32 × Int32) ⊕ (Int32)) (h : f_X4_marksHeld_4 v1 v2 v3 σ = some o) (hk : (fhK (fun x => fhW fhYF Γ 4 [(0, .ref 56), (1, .int v1), (2, .int x.1), (3, .int x.2)] [] σ) (fun o => fhRet Γ (some (.int o)) σ)) o) : fhW fhYF Γ 4 [(0, .ref 56), (1, .int v1), (2, .int v2), (3, .int v3)] [] σ := by
  unfold f_X4_marksHeld_4 at h
  refine fhW.blk fhPF fhLL hΓ [(.iload_n 3, 0), (.aload_n 0, 0), (.getfield 63, 0)] (pc' := 9) (lv' := [(0, .ref 56), (1, .int v1), (2, .int v2), (3, .int v3)]) (st' := [.int (σ.1 56 8), .int v3]) (σ' := σ) (by decide +kernel) rfl rfl rfl ?_
  refine fhW.i_ge hΓ (tgt := 53) (show fhbk _ _ (.if_icmp .ge (44)) _ = true by decide +kernel) (fun hc => ?_) (fun hc => ?_)
  · rw [if_pos hc] at h
    refine fhW.blk fhPF fhLL hΓ [(.iload_n 2, 0)] (pc' := 54) (lv' := [(0, .ref 56), (1, .int v1), (2, .int v2), (3, .int v3)]) (st' := [.int v2]) (σ' := σ) (by decide +kernel) rfl rfl rfl ?_
    have e9 := Option.some.inj h
    subst e9
    exact fhW.iret hΓ (by decide +kernel) hk
  · rw [if_neg hc] at h
    refine fhW.blk fhPF fhLL hΓ [(.aload_n 0, 0), (.getfield 36, 0), (.iload_n 3, 0)] (pc' := 17) (lv' := [(0, .ref 56), (1, .int v1), (2, .int v2), (3, .int v3)]) (st' := [.int v3, .ref 72]) (σ' := σ) (by decide +kernel) rfl rfl rfl ?_
    refine fhW.callv hΓ mvX2_get ml_4_55 (t := 72) (ci := 2) (av := [.int v3]) (rest := []) (r := (some (.int (fcG σ 72 v3)))) (σ' := σ) (T_X2_get (E := fhEn Γ) (d := fhD Γ - 1) hE (by omega) 72 v3 rfl σ) (by omega) (by decide +kernel) rfl rfl rfl (Nat.le_of_ble_eq_true rfl) rfl ?_
    show fhW fhYF Γ 20 [(0, .ref 56), (1, .int v1), (2, .int v2), (3, .int v3)] [.int (fcG σ 72 v3)] σ
    refine fhW.blk fhPF fhLL hΓ [(.istore 4, 0), (.aload_n 0, 0), (.iload_n 1, 0), (.iload 4, 0)] (pc' := 26) (lv' := [(4, .int (fcG σ 72 v3)), (0, .ref 56), (1, .int v1), (2, .int v2), (3, .int v3)]) (st' := [.int (fcG σ 72 v3), .int v1, .ref 56]) (σ' := σ) (by decide +kernel) rfl rfl rfl ?_
    refine fhW.callv hΓ mvX4_isRowOf ml_4_90 (t := 56) (ci := 4) (av := [.int v1, .int (fcG σ 72 v3)]) (rest := []) (r := (some (.int (fhb (f_X4_isRowOf v1 (fcG σ 72 v3) σ))))) (σ' := σ) (T_X4_isRowOf (E := fhEn Γ) (d := fhD Γ - 1) hE (by omega) v1 (fcG σ 72 v3) σ) (by omega) (by decide +kernel) rfl rfl rfl (Nat.le_of_ble_eq_true rfl) rfl ?_
    show fhW fhYF Γ 29 [(4, .int (fcG σ 72 v3)), (0, .ref 56), (1, .int v1), (2, .int v2), (3, .int v3)] [.int (fhb (f_X4_isRowOf v1 (fcG σ 72 v3) σ))] σ
    refine fhW.b_eq hΓ (tgt := 47) (show fhbk _ _ (.ifCond .eq (18)) _ = true by decide +kernel) (fun hc => ?_) (fun hc => ?_)
    · rw [if_neg hc] at h
      refine fhW.sub (lv' := [(0, .ref 56), (1, .int v1), (2, .int v2), (3, .int v3)]) [1, 2, 3, 4] rfl ?_
      exact L_X4_marksHeld_47 hE hΓ hd v1 v2 v3 σ _ h hk
    · rw [if_pos hc] at h
      refine fhW.blk fhPF fhLL hΓ [(.iload_n 2, 0), (.iconst 1, 1), (.aload_n 0, 0), (.getfield 42, 0), (.iload 4, 0), (.iload_n 1, 0)] (pc' := 41) (lv' := [(4, .int (fcG σ 72 v3)), (0, .ref 56), (1, .int v1), (2, .int v2), (3, .int v3)]) (st' := [.int v1, .int (fcG σ 72 v3), .ref 39, .int (1 : Int32), .int v2]) (σ' := σ) (by decide +kernel) rfl rfl rfl ?_
      refine fhW.callv hΓ mvX9_markOf ml_4_94 (t := 39) (ci := 9) (av := [.int (fcG σ 72 v3), .int v1]) (rest := [.int (1 : Int32), .int v2]) (r := (some (.int (f_X9_markOf (fcG σ 72 v3) v1 σ)))) (σ' := σ) (T_X9_markOf (E := fhEn Γ) (d := fhD Γ - 1) hE (by omega) (fcG σ 72 v3) v1 σ) (by omega) (by decide +kernel) rfl rfl rfl (Nat.le_of_ble_eq_true rfl) rfl ?_
      show fhW fhYF Γ 44 [(4, .int (fcG σ 72 v3)), (0, .ref 56), (1, .int v1), (2, .int v2), (3, .int v3)] [.int (f_X9_markOf (fcG σ 72 v3) v1 σ), .int (1 : Int32), .int v2] σ
      refine fhW.blk fhPF fhLL hΓ [(.ishl, 0), (.ior, 0), (.istore_n 2, 0)] (pc' := 47) (lv' := [(2, .int (v2 ||| ((1 : Int32) <<< ((f_X9_markOf (fcG σ 72 v3) v1 σ) &&& 31)))), (4, .int (fcG σ 72 v3)), (0, .ref 56), (1, .int v1), (3, .int v3)]) (st' := []) (σ' := σ) (by decide +kernel) rfl rfl rfl ?_
      obtain ⟨w2_1, e1, h⟩ := fhlet_elim h
      rw [← e1]
      refine fhW.sub (lv' := [(0, .ref 56), (1, .int v1), (2, .int w2_1), (3, .int v3)]) [2, 3, 0, 4] rfl ?_
      exact L_X4_marksHeld_47 hE hΓ hd v1 w2_1 v3 σ _ h hk
set_option maxRecDepth 100000 in
set_option maxHeartbeats 4000000 in
theorem L_X4_marksHeld_E {Γ : fhX} (hE : fhEok fhYF (fhEn Γ)) (hΓ : fhOk fhYF 4 cX4_marksHeld 5 (some .int) Γ) (hd : 3 ≤ fhD Γ) (v1 : Int32)  (σ : fhM) (o : Int32) (h : f_X4_marksHeld v1 σ = some o) (hk : (fun o => fhRet Γ (some (.int o)) σ) o) : fhW fhYF Γ 0 [(0, .ref 56), (1, .int v1)] [] σ := by
  unfold f_X4_marksHeld at h
  refine fhW.blk fhPF fhLL hΓ [(.iconst 0, 0), (.istore_n 2, 0), (.iconst 0, 0), (.istore_n 3, 0)] (pc' := 4) (lv' := [(3, .int (0 : Int32)), (2, .int (0 : Int32)), (0, .ref 56), (1, .int v1)]) (st' := []) (σ' := σ) (by decide +kernel) rfl rfl rfl ?_
  refine fhW.sub (lv' := [(0, .ref 56), (1, .int v1), (2, .int (0 : Int32)), (3, .int (0 : Int32))]) [2, 3, 1, 0] rfl ?_
  exact fhlp_ok (W := (fun x => fhW fhYF Γ 4 [(0, .ref 56), (1, .int v1), (2, .int x.1), (3, .int x.2)] [] σ)) (B := (fun o => fhRet Γ (some (.int o)) σ)) (fun x o h hk => L_X4_marksHeld_4 hE hΓ hd v1 x.1 x.2 σ o h hk) ((0 : Int32), (0 : Int32)) _ h hk
set_option maxRecDepth 100000 in
theorem T_X4_marksHeld {E : fhE} {d : Nat} (hE : fhEok fhYF E) (hd : 3 ≤ d) (v1 : Int32)  (σ : fhM) {o : Int32} (h : f_X4_marksHeld v1 σ = some o) : fhC fhYF E d miX4_marksHeld [.ref 56, .int v1] σ (some (.int o)) σ := by
  refine fhC.of (y := yX4_marksHeld) (cc := cX4_marksHeld) (nL := 5) (ret := (some .int)) 4 rfl (by decide +kernel) (Nat.le_of_ble_eq_true rfl) ?_
  intro Γ hΓ hR hD hEn
  subst hD; subst hEn
  exact L_X4_marksHeld_E hE hΓ hd v1  σ _ h hR
set_option maxRecDepth 100000 in
set_option maxHeartbeats 4000000 in
theorem L_X11_guest_E {Γ : fhX} (hE : fhEok fhYF (fhEn Γ)) (hΓ : fhOk fhYF 11 cX11_guest 3 (some .int) Γ) (hd : 4 ≤ fhD Γ) (v1 : Int32) (v2 : Int32)  (σ : fhM) (o : Int32) (h : f_X11_guest v1 v2 σ = some o) (hk : (fun o => fhRet Γ (some (.int o)) σ) o) : fhW fhYF Γ 0 [(0, .ref 0), (1, .int v1), (2, .int v2)] [] σ := by
  unfold f_X11_guest at h
  refine fhW.blk fhPF fhLL hΓ [(.aload_n 0, 0), (.iload_n 1, 0)] (pc' := 2) (lv' := [(0, .ref 0), (1, .int v1), (2, .int v2)]) (st' := [.int v1, .ref 0]) (σ' := σ) (by decide +kernel) rfl rfl rfl ?_
  refine fhW.callv hΓ mvX11_isGuest ml_11_201 (t := 0) (ci := 11) (av := [.int v1]) (rest := []) (r := (some (.int (fhb (f_X11_isGuest v1 σ))))) (σ' := σ) (T_X11_isGuest (E := fhEn Γ) (d := fhD Γ - 1) hE (by omega) v1 σ) (by omega) (by decide +kernel) rfl rfl rfl (Nat.le_of_ble_eq_true rfl) rfl ?_
  show fhW fhYF Γ 5 [(0, .ref 0), (1, .int v1), (2, .int v2)] [.int (fhb (f_X11_isGuest v1 σ))] σ
  refine fhW.b_ne hΓ (tgt := 10) (show fhbk _ _ (.ifCond .ne (5)) _ = true by decide +kernel) (fun hc => ?_) (fun hc => ?_)
  · rw [if_pos hc] at h
    refine fhW.blk fhPF fhLL hΓ [(.iload_n 2, 0)] (pc' := 11) (lv' := [(0, .ref 0), (1, .int v1), (2, .int v2)]) (st' := [.int v2]) (σ' := σ) (by decide +kernel) rfl rfl rfl ?_
    refine fhW.tsw hΓ (dflt := 91) (lo := 0) (hi := 4) (offs := #[33, 49, 61, 70, 82]) (len := 33) (td := 102) [(0, 44), (1, 60), (2, 72), (3, 81), (4, 93)] (by decide +kernel) ?_
    refine fhsw_c (fun hc => ?_) (fun hc => ?_)
    · rw [if_pos hc] at h
      refine fhW.blk fhPF fhLL hΓ [(.aload_n 0, 0), (.getfield 63, 0), (.aload_n 0, 0), (.getfield 72, 0), (.getfield 208, 0), (.iload_n 1, 0)] (pc' := 56) (lv' := [(0, .ref 0), (1, .int v1), (2, .int v2)]) (st' := [.int v1, .int (σ.1 56 9), .ref 39]) (σ' := σ) (by decide +kernel) rfl rfl rfl ?_
      refine fhW.callv hΓ mvX9_markOf ml_11_209 (t := 39) (ci := 9) (av := [.int (σ.1 56 9), .int v1]) (rest := []) (r := (some (.int (f_X9_markOf (σ.1 56 9) v1 σ)))) (σ' := σ) (T_X9_markOf (E := fhEn Γ) (d := fhD Γ - 1) hE (by omega) (σ.1 56 9) v1 σ) (by omega) (by decide +kernel) rfl rfl rfl (Nat.le_of_ble_eq_true rfl) rfl ?_
      show fhW fhYF Γ 59 [(0, .ref 0), (1, .int v1), (2, .int v2)] [.int (f_X9_markOf (σ.1 56 9) v1 σ)] σ
      have e9 := Option.some.inj h
      subst e9
      exact fhW.iret hΓ (by decide +kernel) hk
    rw [if_neg hc] at h
    refine fhsw_c (fun hc => ?_) (fun hc => ?_)
    · rw [if_pos hc] at h
      refine fhW.blk fhPF fhLL hΓ [(.aload_n 0, 0), (.getfield 63, 0), (.getfield 213, 0), (.iload_n 1, 0)] (pc' := 68) (lv' := [(0, .ref 0), (1, .int v1), (2, .int v2)]) (st' := [.int v1, .ref 50]) (σ' := σ) (by decide +kernel) rfl rfl rfl ?_
      refine fhW.callv hΓ mvX2_get ml_11_117 (t := 50) (ci := 2) (av := [.int v1]) (rest := []) (r := (some (.int (fcG σ 50 v1)))) (σ' := σ) (T_X2_get (E := fhEn Γ) (d := fhD Γ - 1) hE (by omega) 50 v1 rfl σ) (by omega) (by decide +kernel) rfl rfl rfl (Nat.le_of_ble_eq_true rfl) rfl ?_
      show fhW fhYF Γ 71 [(0, .ref 0), (1, .int v1), (2, .int v2)] [.int (fcG σ 50 v1)] σ
      have e9 := Option.some.inj h
      subst e9
      exact fhW.iret hΓ (by decide +kernel) hk
    rw [if_neg hc] at h
    refine fhsw_c (fun hc => ?_) (fun hc => ?_)
    · rw [if_pos hc] at h
      refine fhW.blk fhPF fhLL hΓ [(.aload_n 0, 0), (.getfield 72, 0), (.iload_n 1, 0)] (pc' := 77) (lv' := [(0, .ref 0), (1, .int v1), (2, .int v2)]) (st' := [.int v1, .ref 56]) (σ' := σ) (by decide +kernel) rfl rfl rfl ?_
      obtain ⟨q1, hb1, h⟩ := Option.bind_eq_some_iff.mp h
      refine fhW.callv hΓ mvX4_countRowsOf ml_11_216 (t := 56) (ci := 4) (av := [.int v1]) (rest := []) (r := (some (.int q1))) (σ' := σ) (T_X4_countRowsOf (E := fhEn Γ) (d := fhD Γ - 1) hE (by omega) v1 σ hb1) (by omega) (by decide +kernel) rfl rfl rfl (Nat.le_of_ble_eq_true rfl) rfl ?_
      show fhW fhYF Γ 80 [(0, .ref 0), (1, .int v1), (2, .int v2)] [.int q1] σ
      have e9 := Option.some.inj h
      subst e9
      exact fhW.iret hΓ (by decide +kernel) hk
    rw [if_neg hc] at h
    refine fhsw_c (fun hc => ?_) (fun hc => ?_)
    · rw [if_pos hc] at h
      refine fhW.blk fhPF fhLL hΓ [(.aload_n 0, 0), (.getfield 72, 0), (.iload_n 1, 0)] (pc' := 86) (lv' := [(0, .ref 0), (1, .int v1), (2, .int v2)]) (st' := [.int v1, .ref 56]) (σ' := σ) (by decide +kernel) rfl rfl rfl ?_
      refine fhW.callv hΓ mvX4_isKnower ml_11_219 (t := 56) (ci := 4) (av := [.int v1]) (rest := []) (r := (some (.int (fhb (f_X4_isKnower v1 σ))))) (σ' := σ) (T_X4_isKnower (E := fhEn Γ) (d := fhD Γ - 1) hE (by omega) v1 σ) (by omega) (by decide +kernel) rfl rfl rfl (Nat.le_of_ble_eq_true rfl) rfl ?_
      show fhW fhYF Γ 89 [(0, .ref 0), (1, .int v1), (2, .int v2)] [.int (fhb (f_X4_isKnower v1 σ))] σ
      refine fhW.calls hΓ msX11_one ml_11_222 (av := [.int (fhb (f_X4_isKnower v1 σ))]) (rest := []) (r := (some (.int (f_X11_one (fhb (f_X4_isKnower v1 σ)) σ)))) (σ' := σ) (T_X11_one (E := fhEn Γ) (d := fhD Γ - 1) hE (by omega) (fhb (f_X4_isKnower v1 σ)) σ) (by omega) (by decide +kernel) rfl (Nat.le_of_ble_eq_true rfl) rfl ?_
      show fhW fhYF Γ 92 [(0, .ref 0), (1, .int v1), (2, .int v2)] [.int (f_X11_one (fhb (f_X4_isKnower v1 σ)) σ)] σ
      have e9 := Option.some.inj h
      subst e9
      exact fhW.iret hΓ (by decide +kernel) hk
    rw [if_neg hc] at h
    refine fhsw_c (fun hc => ?_) (fun hc => ?_)
    · rw [if_pos hc] at h
      refine fhW.blk fhPF fhLL hΓ [(.aload_n 0, 0), (.getfield 72, 0), (.iload_n 1, 0)] (pc' := 98) (lv' := [(0, .ref 0), (1, .int v1), (2, .int v2)]) (st' := [.int v1, .ref 56]) (σ' := σ) (by decide +kernel) rfl rfl rfl ?_
      obtain ⟨q2, hb2, h⟩ := Option.bind_eq_some_iff.mp h
      refine fhW.callv hΓ mvX4_marksHeld ml_11_226 (t := 56) (ci := 4) (av := [.int v1]) (rest := []) (r := (some (.int q2))) (σ' := σ) (T_X4_marksHeld (E := fhEn Γ) (d := fhD Γ - 1) hE (by omega) v1 σ hb2) (by omega) (by decide +kernel) rfl rfl rfl (Nat.le_of_ble_eq_true rfl) rfl ?_
      show fhW fhYF Γ 101 [(0, .ref 0), (1, .int v1), (2, .int v2)] [.int q2] σ
      have e9 := Option.some.inj h
      subst e9
      exact fhW.iret hΓ (by decide +kernel) hk
    rw [if_neg hc] at h
    refine fhsw_n ?_
    refine fhW.blk fhPF fhLL hΓ [(.iconst (-1), -1)] (pc' := 103) (lv' := [(0, .ref 0), (1, .int v1), (2, .int v2)]) (st' := [.int (-1 : Int32)]) (σ' := σ) (by decide +kernel) rfl rfl rfl ?_
    have e9 := Option.some.inj h
    subst e9
    exact fhW.iret hΓ (by decide +kernel) hk
  · rw [if_neg hc] at h
    refine fhW.blk fhPF fhLL hΓ [(.iconst (-1), -1)] (pc' := 9) (lv' := [(0, .ref 0), (1, .int v1), (2, .int v2)]) (st' := [.int (-1 : Int32)]) (σ' := σ) (by decide +kernel) rfl rfl rfl ?_
    have e9 := Option.some.inj h
    subst e9
    exact fhW.iret hΓ (by decide +kernel) hk
set_option maxRecDepth 100000 in
theorem T_X11_guest {E : fhE} {d : Nat} (hE : fhEok fhYF E) (hd : 4 ≤ d) (v1 : Int32) (v2 : Int32)  (σ : fhM) {o : Int32} (h : f_X11_guest v1 v2 σ = some o) : fhC fhYF E d miX11_guest [.ref 0, .int v1, .int v2] σ (some (.int o)) σ := by
  refine fhC.of (y := yX11_guest) (cc := cX11_guest) (nL := 3) (ret := (some .int)) 11 rfl (by decide +kernel) (Nat.le_of_ble_eq_true rfl) ?_
  intro Γ hΓ hR hD hEn
  subst hD; subst hEn
  exact L_X11_guest_E hE hΓ hd v1 v2  σ _ h hR
set_option maxRecDepth 100000 in
set_option maxHeartbeats 4000000 in
theorem L_X9_holdsIn_E {Γ : fhX} (hE : fhEok fhYF (fhEn Γ)) (hΓ : fhOk fhYF 9 cX9_holdsIn 3 (some .boolean) Γ) (hd : 1 ≤ fhD Γ) (v1 : Int32) (v2 : Int32)  (σ : fhM) (o : Bool) (h : f_X9_holdsIn v1 v2 σ = o) (hk : (fun o => fhRet Γ (some (.int (fhb o))) σ) o) : fhW fhYF Γ 0 [(0, .ref 39), (1, .int v1), (2, .int v2)] [] σ := by
  unfold f_X9_holdsIn at h
  refine fhW.blk fhPF fhLL hΓ [(.aload_n 0, 0), (.getfield 35, 0), (.iload_n 1, 0)] (pc' := 5) (lv' := [(0, .ref 39), (1, .int v1), (2, .int v2)]) (st' := [.int v1, .ref 52]) (σ' := σ) (by decide +kernel) rfl rfl rfl ?_
  refine fhW.callv hΓ mvX2_get ml_9_60 (t := 52) (ci := 2) (av := [.int v1]) (rest := []) (r := (some (.int (fcG σ 52 v1)))) (σ' := σ) (T_X2_get (E := fhEn Γ) (d := fhD Γ - 1) hE (by omega) 52 v1 rfl σ) (by omega) (by decide +kernel) rfl rfl rfl (Nat.le_of_ble_eq_true rfl) rfl ?_
  show fhW fhYF Γ 8 [(0, .ref 39), (1, .int v1), (2, .int v2)] [.int (fcG σ 52 v1)] σ
  refine fhW.blk fhPF fhLL hΓ [(.iload_n 2, 0), (.ishr, 0), (.iconst 1, 1), (.iand, 0)] (pc' := 12) (lv' := [(0, .ref 39), (1, .int v1), (2, .int v2)]) (st' := [.int (((fcG σ 52 v1) >>> (v2 &&& 31)) &&& (1 : Int32))]) (σ' := σ) (by decide +kernel) rfl rfl rfl ?_
  refine fhW.z_eq hΓ (tgt := 19) (show fhbk _ _ (.ifCond .eq (7)) _ = true by decide +kernel) (fun hc => ?_) (fun hc => ?_)
  · rw [if_pos hc] at h
    refine fhW.blk fhPF fhLL hΓ [(.iconst 0, 0)] (pc' := 20) (lv' := [(0, .ref 39), (1, .int v1), (2, .int v2)]) (st' := [.int (0 : Int32)]) (σ' := σ) (by decide +kernel) rfl rfl rfl ?_
    subst h
    exact fhW.zret (v := false) hΓ (by decide +kernel) hk
  · rw [if_neg hc] at h
    refine fhW.blk fhPF fhLL hΓ [(.iconst 1, 1)] (pc' := 16) (lv' := [(0, .ref 39), (1, .int v1), (2, .int v2)]) (st' := [.int (1 : Int32)]) (σ' := σ) (by decide +kernel) rfl rfl rfl ?_
    refine fhW.goto hΓ (off := 4) (tgt := 20) (by decide +kernel) ?_
    subst h
    exact fhW.zret (v := true) hΓ (by decide +kernel) hk
set_option maxRecDepth 100000 in
theorem T_X9_holdsIn {E : fhE} {d : Nat} (hE : fhEok fhYF E) (hd : 1 ≤ d) (v1 : Int32) (v2 : Int32)  (σ : fhM) : fhC fhYF E d miX9_holdsIn [.ref 39, .int v1, .int v2] σ (some (.int (fhb (f_X9_holdsIn v1 v2 σ)))) σ := by
  refine fhC.of (y := yX9_holdsIn) (cc := cX9_holdsIn) (nL := 3) (ret := (some .boolean)) 9 rfl (by decide +kernel) (Nat.le_of_ble_eq_true rfl) ?_
  intro Γ hΓ hR hD hEn
  subst hD; subst hEn
  exact L_X9_holdsIn_E hE hΓ hd v1 v2  σ _ rfl hR
set_option maxRecDepth 100000 in
set_option maxHeartbeats 4000000 in
theorem L_X4_countAlike_52 {Γ : fhX} (hE : fhEok fhYF (fhEn Γ)) (hΓ : fhOk fhYF 4 cX4_countAlike 6 (some .int) Γ) (hd : 1 ≤ fhD Γ) (v1 : Nat) (v2 : Int32) (v3 : Int32) (v5 : Int32) (s0 : Int32) (s1 : Int32) (hv1 : fhiC v1 = true) (σ : fhM) (o : (Int32 × Int32) ⊕ (Int32)) (h : f_X4_countAlike_52 v1 v2 v3 v5 s0 s1 σ = some o) (hk : (fhK (fun x => fhW fhYF Γ 17 [(0, .ref 56), (1, .ref v1), (2, .int v2), (3, .int v3), (4, .int x.1), (5, .int x.2)] [] σ) (fun o => fhRet Γ (some (.int o)) σ)) o) : fhW fhYF Γ 52 [(0, .ref 56), (1, .ref v1), (2, .int v2), (3, .int v3), (5, .int v5)] [.int s0, .int s1] σ := by
  unfold f_X4_countAlike_52 at h
  refine fhW.blk fhPF fhLL hΓ [(.iadd, 0), (.istore 4, 0), (.iinc 5 1, 1)] (pc' := 58) (lv' := [(5, .int (v5 + (1 : Int32))), (4, .int (s1 + s0)), (0, .ref 56), (1, .ref v1), (2, .int v2), (3, .int v3)]) (st' := []) (σ' := σ) (by decide +kernel) rfl rfl rfl ?_
  refine fhW.goto hΓ (off := (-41)) (tgt := 17) (by decide +kernel) ?_
  refine fhW.sub (lv' := [(0, .ref 56), (1, .ref v1), (2, .int v2), (3, .int v3), (4, .int (s1 + s0)), (5, .int (v5 + (1 : Int32)))]) [2, 3, 4, 5, 1, 0] rfl ?_
  have e9 := Option.some.inj h
  subst e9
  exact hk
set_option maxRecDepth 100000 in
set_option maxHeartbeats 4000000 in
theorem L_X4_countAlike_17 {Γ : fhX} (hE : fhEok fhYF (fhEn Γ)) (hΓ : fhOk fhYF 4 cX4_countAlike 6 (some .int) Γ) (hd : 1 ≤ fhD Γ) (v1 : Nat) (v2 : Int32) (v3 : Int32) (v4 : Int32) (v5 : Int32) (hv1 : fhiC v1 = true) (σ : fhM) (o : (Int32 × Int32) ⊕ (Int32)) (h : f_X4_countAlike_17 v1 v2 v3 v4 v5 σ = some o) (hk : (fhK (fun x => fhW fhYF Γ 17 [(0, .ref 56), (1, .ref v1), (2, .int v2), (3, .int v3), (4, .int x.1), (5, .int x.2)] [] σ) (fun o => fhRet Γ (some (.int o)) σ)) o) : fhW fhYF Γ 17 [(0, .ref 56), (1, .ref v1), (2, .int v2), (3, .int v3), (4, .int v4), (5, .int v5)] [] σ := by
  unfold f_X4_countAlike_17 at h
  refine fhW.blk fhPF fhLL hΓ [(.iload 5, 0), (.aload_n 0, 0), (.getfield 63, 0)] (pc' := 23) (lv' := [(0, .ref 56), (1, .ref v1), (2, .int v2), (3, .int v3), (4, .int v4), (5, .int v5)]) (st' := [.int (σ.1 56 8), .int v5]) (σ' := σ) (by decide +kernel) rfl rfl rfl ?_
  refine fhW.i_ge hΓ (tgt := 61) (show fhbk _ _ (.if_icmp .ge (38)) _ = true by decide +kernel) (fun hc => ?_) (fun hc => ?_)
  · rw [if_pos hc] at h
    refine fhW.blk fhPF fhLL hΓ [(.iload 4, 0)] (pc' := 63) (lv' := [(0, .ref 56), (1, .ref v1), (2, .int v2), (3, .int v3), (4, .int v4), (5, .int v5)]) (st' := [.int v4]) (σ' := σ) (by decide +kernel) rfl rfl rfl ?_
    have e9 := Option.some.inj h
    subst e9
    exact fhW.iret hΓ (by decide +kernel) hk
  · rw [if_neg hc] at h
    refine fhW.blk fhPF fhLL hΓ [(.iload 4, 0), (.aload_n 1, 0), (.aload_n 0, 0), (.getfield 36, 0), (.iload 5, 0)] (pc' := 35) (lv' := [(0, .ref 56), (1, .ref v1), (2, .int v2), (3, .int v3), (4, .int v4), (5, .int v5)]) (st' := [.int v5, .ref 72, .ref v1, .int v4]) (σ' := σ) (by decide +kernel) rfl rfl rfl ?_
    refine fhW.callv hΓ mvX2_get ml_4_55 (t := 72) (ci := 2) (av := [.int v5]) (rest := [.ref v1, .int v4]) (r := (some (.int (fcG σ 72 v5)))) (σ' := σ) (T_X2_get (E := fhEn Γ) (d := fhD Γ - 1) hE (by omega) 72 v5 rfl σ) (by omega) (by decide +kernel) rfl rfl rfl (Nat.le_of_ble_eq_true rfl) rfl ?_
    show fhW fhYF Γ 38 [(0, .ref 56), (1, .ref v1), (2, .int v2), (3, .int v3), (4, .int v4), (5, .int v5)] [.int (fcG σ 72 v5), .ref v1, .int v4] σ
    refine fhW.callv hΓ mvX2_get ml_4_55 (t := v1) (ci := 2) (av := [.int (fcG σ 72 v5)]) (rest := [.int v4]) (r := (some (.int (fcG σ v1 (fcG σ 72 v5))))) (σ' := σ) (T_X2_get (E := fhEn Γ) (d := fhD Γ - 1) hE (by omega) v1 (fcG σ 72 v5) hv1 σ) (by omega) (by decide +kernel) rfl (fhiC_g hv1) rfl (Nat.le_of_ble_eq_true rfl) rfl ?_
    show fhW fhYF Γ 41 [(0, .ref 56), (1, .ref v1), (2, .int v2), (3, .int v3), (4, .int v4), (5, .int v5)] [.int (fcG σ v1 (fcG σ 72 v5)), .int v4] σ
    refine fhW.blk fhPF fhLL hΓ [(.iload_n 2, 0), (.iand, 0), (.iload_n 3, 0)] (pc' := 44) (lv' := [(0, .ref 56), (1, .ref v1), (2, .int v2), (3, .int v3), (4, .int v4), (5, .int v5)]) (st' := [.int v3, .int ((fcG σ v1 (fcG σ 72 v5)) &&& v2), .int v4]) (σ' := σ) (by decide +kernel) rfl rfl rfl ?_
    refine fhW.i_ne hΓ (tgt := 51) (show fhbk _ _ (.if_icmp .ne (7)) _ = true by decide +kernel) (fun hc => ?_) (fun hc => ?_)
    · simp only [if_neg hc] at h
      refine fhW.blk fhPF fhLL hΓ [(.iconst 0, 0)] (pc' := 52) (lv' := [(0, .ref 56), (1, .ref v1), (2, .int v2), (3, .int v3), (4, .int v4), (5, .int v5)]) (st' := [.int (0 : Int32), .int v4]) (σ' := σ) (by decide +kernel) rfl rfl rfl ?_
      refine fhW.sub (lv' := [(0, .ref 56), (1, .ref v1), (2, .int v2), (3, .int v3), (5, .int v5)]) [0, 1, 2, 3, 5] rfl ?_
      exact L_X4_countAlike_52 hE hΓ hd v1 v2 v3 v5 (0 : Int32) v4 hv1 σ _ h hk
    · simp only [if_pos hc] at h
      refine fhW.blk fhPF fhLL hΓ [(.iconst 1, 1)] (pc' := 48) (lv' := [(0, .ref 56), (1, .ref v1), (2, .int v2), (3, .int v3), (4, .int v4), (5, .int v5)]) (st' := [.int (1 : Int32), .int v4]) (σ' := σ) (by decide +kernel) rfl rfl rfl ?_
      refine fhW.goto hΓ (off := 4) (tgt := 52) (by decide +kernel) ?_
      refine fhW.sub (lv' := [(0, .ref 56), (1, .ref v1), (2, .int v2), (3, .int v3), (5, .int v5)]) [0, 1, 2, 3, 5] rfl ?_
      exact L_X4_countAlike_52 hE hΓ hd v1 v2 v3 v5 (1 : Int32) v4 hv1 σ _ h hk
set_option maxRecDepth 100000 in
set_option maxHeartbeats 4000000 in
theorem L_X4_countAlike_E {Γ : fhX} (hE : fhEok fhYF (fhEn Γ)) (hΓ : fhOk fhYF 4 cX4_countAlike 6 (some .int) Γ) (hd : 1 ≤ fhD Γ) (v1 : Nat) (v2 : Int32) (hv1 : fhiC v1 = true) (σ : fhM) (o : Int32) (h : f_X4_countAlike v1 v2 σ = some o) (hk : (fun o => fhRet Γ (some (.int o)) σ) o) : fhW fhYF Γ 0 [(0, .ref 56), (1, .ref v1), (2, .int v2)] [] σ := by
  unfold f_X4_countAlike at h
  refine fhW.blk fhPF fhLL hΓ [(.aload_n 1, 0), (.aload_n 0, 0), (.getfield 69, 0)] (pc' := 5) (lv' := [(0, .ref 56), (1, .ref v1), (2, .int v2)]) (st' := [.int (σ.1 56 9), .ref v1]) (σ' := σ) (by decide +kernel) rfl rfl rfl ?_
  refine fhW.callv hΓ mvX2_get ml_4_55 (t := v1) (ci := 2) (av := [.int (σ.1 56 9)]) (rest := []) (r := (some (.int (fcG σ v1 (σ.1 56 9))))) (σ' := σ) (T_X2_get (E := fhEn Γ) (d := fhD Γ - 1) hE (by omega) v1 (σ.1 56 9) hv1 σ) (by omega) (by decide +kernel) rfl (fhiC_g hv1) rfl (Nat.le_of_ble_eq_true rfl) rfl ?_
  show fhW fhYF Γ 8 [(0, .ref 56), (1, .ref v1), (2, .int v2)] [.int (fcG σ v1 (σ.1 56 9))] σ
  refine fhW.blk fhPF fhLL hΓ [(.iload_n 2, 0), (.iand, 0), (.istore_n 3, 0), (.iconst 0, 0), (.istore 4, 0), (.iconst 0, 0), (.istore 5, 0)] (pc' := 17) (lv' := [(5, .int (0 : Int32)), (4, .int (0 : Int32)), (3, .int ((fcG σ v1 (σ.1 56 9)) &&& v2)), (0, .ref 56), (1, .ref v1), (2, .int v2)]) (st' := []) (σ' := σ) (by decide +kernel) rfl rfl rfl ?_
  refine fhW.sub (lv' := [(0, .ref 56), (1, .ref v1), (2, .int v2), (3, .int ((fcG σ v1 (σ.1 56 9)) &&& v2)), (4, .int (0 : Int32)), (5, .int (0 : Int32))]) [3, 4, 5, 2, 1, 0] rfl ?_
  exact fhlp_ok (W := (fun x => fhW fhYF Γ 17 [(0, .ref 56), (1, .ref v1), (2, .int v2), (3, .int ((fcG σ v1 (σ.1 56 9)) &&& v2)), (4, .int x.1), (5, .int x.2)] [] σ)) (B := (fun o => fhRet Γ (some (.int o)) σ)) (fun x o h hk => L_X4_countAlike_17 hE hΓ hd v1 v2 ((fcG σ v1 (σ.1 56 9)) &&& v2) x.1 x.2 hv1 σ o h hk) ((0 : Int32), (0 : Int32)) _ h hk
set_option maxRecDepth 100000 in
theorem T_X4_countAlike {E : fhE} {d : Nat} (hE : fhEok fhYF E) (hd : 1 ≤ d) (v1 : Nat) (v2 : Int32) (hv1 : fhiC v1 = true) (σ : fhM) {o : Int32} (h : f_X4_countAlike v1 v2 σ = some o) : fhC fhYF E d miX4_countAlike [.ref 56, .ref v1, .int v2] σ (some (.int o)) σ := by
  refine fhC.of (y := yX4_countAlike) (cc := cX4_countAlike) (nL := 6) (ret := (some .int)) 4 rfl (by decide +kernel) (Nat.le_of_ble_eq_true rfl) ?_
  intro Γ hΓ hR hD hEn
  subst hD; subst hEn
  exact L_X4_countAlike_E hE hΓ hd v1 v2 hv1 σ _ h hR
set_option maxRecDepth 100000 in
set_option maxHeartbeats 4000000 in
theorem L_X9_countHolding_34 {Γ : fhX} (hE : fhEok fhYF (fhEn Γ)) (hΓ : fhOk fhYF 9 cX9_countHolding 4 (some .int) Γ) (hd : 2 ≤ fhD Γ) (v1 : Int32) (v3 : Int32) (s0 : Int32) (s1 : Int32)  (σ : fhM) (o : (Int32 × Int32) ⊕ (Int32)) (h : f_X9_countHolding_34 v1 v3 s0 s1 σ = some o) (hk : (fhK (fun x => fhW fhYF Γ 4 [(0, .ref 39), (1, .int v1), (2, .int x.1), (3, .int x.2)] [] σ) (fun o => fhRet Γ (some (.int o)) σ)) o) : fhW fhYF Γ 34 [(0, .ref 39), (1, .int v1), (3, .int v3)] [.int s0, .int s1] σ := by
  unfold f_X9_countHolding_34 at h
  refine fhW.blk fhPF fhLL hΓ [(.iadd, 0), (.istore_n 2, 0), (.iinc 3 1, 1)] (pc' := 39) (lv' := [(3, .int (v3 + (1 : Int32))), (2, .int (s1 + s0)), (0, .ref 39), (1, .int v1)]) (st' := []) (σ' := σ) (by decide +kernel) rfl rfl rfl ?_
  refine fhW.goto hΓ (off := (-35)) (tgt := 4) (by decide +kernel) ?_
  refine fhW.sub (lv' := [(0, .ref 39), (1, .int v1), (2, .int (s1 + s0)), (3, .int (v3 + (1 : Int32)))]) [2, 3, 1, 0] rfl ?_
  have e9 := Option.some.inj h
  subst e9
  exact hk
set_option maxRecDepth 100000 in
set_option maxHeartbeats 4000000 in
theorem L_X9_countHolding_4 {Γ : fhX} (hE : fhEok fhYF (fhEn Γ)) (hΓ : fhOk fhYF 9 cX9_countHolding 4 (some .int) Γ) (hd : 2 ≤ fhD Γ) (v1 : Int32) (v2 : Int32) (v3 : Int32)  (σ : fhM) (o : (Int32 × Int32) ⊕ (Int32)) (h : f_X9_countHolding_4 v1 v2 v3 σ = some o) (hk : (fhK (fun x => fhW fhYF Γ 4 [(0, .ref 39), (1, .int v1), (2, .int x.1), (3, .int x.2)] [] σ) (fun o => fhRet Γ (some (.int o)) σ)) o) : fhW fhYF Γ 4 [(0, .ref 39), (1, .int v1), (2, .int v2), (3, .int v3)] [] σ := by
  unfold f_X9_countHolding_4 at h
  refine fhW.blk fhPF fhLL hΓ [(.iload_n 3, 0), (.aload_n 0, 0), (.getfield 79, 0)] (pc' := 9) (lv' := [(0, .ref 39), (1, .int v1), (2, .int v2), (3, .int v3)]) (st' := [.int (σ.1 39 12), .int v3]) (σ' := σ) (by decide +kernel) rfl rfl rfl ?_
  refine fhW.i_ge hΓ (tgt := 42) (show fhbk _ _ (.if_icmp .ge (33)) _ = true by decide +kernel) (fun hc => ?_) (fun hc => ?_)
  · rw [if_pos hc] at h
    refine fhW.blk fhPF fhLL hΓ [(.iload_n 2, 0)] (pc' := 43) (lv' := [(0, .ref 39), (1, .int v1), (2, .int v2), (3, .int v3)]) (st' := [.int v2]) (σ' := σ) (by decide +kernel) rfl rfl rfl ?_
    have e9 := Option.some.inj h
    subst e9
    exact fhW.iret hΓ (by decide +kernel) hk
  · rw [if_neg hc] at h
    refine fhW.blk fhPF fhLL hΓ [(.iload_n 2, 0), (.aload_n 0, 0), (.aload_n 0, 0), (.getfield 38, 0), (.iload_n 3, 0)] (pc' := 19) (lv' := [(0, .ref 39), (1, .int v1), (2, .int v2), (3, .int v3)]) (st' := [.int v3, .ref 54, .ref 39, .int v2]) (σ' := σ) (by decide +kernel) rfl rfl rfl ?_
    refine fhW.callv hΓ mvX2_get ml_9_60 (t := 54) (ci := 2) (av := [.int v3]) (rest := [.ref 39, .int v2]) (r := (some (.int (fcG σ 54 v3)))) (σ' := σ) (T_X2_get (E := fhEn Γ) (d := fhD Γ - 1) hE (by omega) 54 v3 rfl σ) (by omega) (by decide +kernel) rfl rfl rfl (Nat.le_of_ble_eq_true rfl) rfl ?_
    show fhW fhYF Γ 22 [(0, .ref 39), (1, .int v1), (2, .int v2), (3, .int v3)] [.int (fcG σ 54 v3), .ref 39, .int v2] σ
    refine fhW.blk fhPF fhLL hΓ [(.iload_n 1, 0)] (pc' := 23) (lv' := [(0, .ref 39), (1, .int v1), (2, .int v2), (3, .int v3)]) (st' := [.int v1, .int (fcG σ 54 v3), .ref 39, .int v2]) (σ' := σ) (by decide +kernel) rfl rfl rfl ?_
    refine fhW.callv hΓ mvX9_holdsIn ml_9_102 (t := 39) (ci := 9) (av := [.int (fcG σ 54 v3), .int v1]) (rest := [.int v2]) (r := (some (.int (fhb (f_X9_holdsIn (fcG σ 54 v3) v1 σ))))) (σ' := σ) (T_X9_holdsIn (E := fhEn Γ) (d := fhD Γ - 1) hE (by omega) (fcG σ 54 v3) v1 σ) (by omega) (by decide +kernel) rfl rfl rfl (Nat.le_of_ble_eq_true rfl) rfl ?_
    show fhW fhYF Γ 26 [(0, .ref 39), (1, .int v1), (2, .int v2), (3, .int v3)] [.int (fhb (f_X9_holdsIn (fcG σ 54 v3) v1 σ)), .int v2] σ
    refine fhW.b_eq hΓ (tgt := 33) (show fhbk _ _ (.ifCond .eq (7)) _ = true by decide +kernel) (fun hc => ?_) (fun hc => ?_)
    · simp only [if_neg hc] at h
      refine fhW.blk fhPF fhLL hΓ [(.iconst 0, 0)] (pc' := 34) (lv' := [(0, .ref 39), (1, .int v1), (2, .int v2), (3, .int v3)]) (st' := [.int (0 : Int32), .int v2]) (σ' := σ) (by decide +kernel) rfl rfl rfl ?_
      refine fhW.sub (lv' := [(0, .ref 39), (1, .int v1), (3, .int v3)]) [0, 1, 3] rfl ?_
      exact L_X9_countHolding_34 hE hΓ hd v1 v3 (0 : Int32) v2 σ _ h hk
    · simp only [if_pos hc] at h
      refine fhW.blk fhPF fhLL hΓ [(.iconst 1, 1)] (pc' := 30) (lv' := [(0, .ref 39), (1, .int v1), (2, .int v2), (3, .int v3)]) (st' := [.int (1 : Int32), .int v2]) (σ' := σ) (by decide +kernel) rfl rfl rfl ?_
      refine fhW.goto hΓ (off := 4) (tgt := 34) (by decide +kernel) ?_
      refine fhW.sub (lv' := [(0, .ref 39), (1, .int v1), (3, .int v3)]) [0, 1, 3] rfl ?_
      exact L_X9_countHolding_34 hE hΓ hd v1 v3 (1 : Int32) v2 σ _ h hk
set_option maxRecDepth 100000 in
set_option maxHeartbeats 4000000 in
theorem L_X9_countHolding_E {Γ : fhX} (hE : fhEok fhYF (fhEn Γ)) (hΓ : fhOk fhYF 9 cX9_countHolding 4 (some .int) Γ) (hd : 2 ≤ fhD Γ) (v1 : Int32)  (σ : fhM) (o : Int32) (h : f_X9_countHolding v1 σ = some o) (hk : (fun o => fhRet Γ (some (.int o)) σ) o) : fhW fhYF Γ 0 [(0, .ref 39), (1, .int v1)] [] σ := by
  unfold f_X9_countHolding at h
  refine fhW.blk fhPF fhLL hΓ [(.iconst 0, 0), (.istore_n 2, 0), (.iconst 0, 0), (.istore_n 3, 0)] (pc' := 4) (lv' := [(3, .int (0 : Int32)), (2, .int (0 : Int32)), (0, .ref 39), (1, .int v1)]) (st' := []) (σ' := σ) (by decide +kernel) rfl rfl rfl ?_
  refine fhW.sub (lv' := [(0, .ref 39), (1, .int v1), (2, .int (0 : Int32)), (3, .int (0 : Int32))]) [2, 3, 1, 0] rfl ?_
  exact fhlp_ok (W := (fun x => fhW fhYF Γ 4 [(0, .ref 39), (1, .int v1), (2, .int x.1), (3, .int x.2)] [] σ)) (B := (fun o => fhRet Γ (some (.int o)) σ)) (fun x o h hk => L_X9_countHolding_4 hE hΓ hd v1 x.1 x.2 σ o h hk) ((0 : Int32), (0 : Int32)) _ h hk
set_option maxRecDepth 100000 in
theorem T_X9_countHolding {E : fhE} {d : Nat} (hE : fhEok fhYF E) (hd : 2 ≤ d) (v1 : Int32)  (σ : fhM) {o : Int32} (h : f_X9_countHolding v1 σ = some o) : fhC fhYF E d miX9_countHolding [.ref 39, .int v1] σ (some (.int o)) σ := by
  refine fhC.of (y := yX9_countHolding) (cc := cX9_countHolding) (nL := 4) (ret := (some .int)) 9 rfl (by decide +kernel) (Nat.le_of_ble_eq_true rfl) ?_
  intro Γ hΓ hR hD hEn
  subst hD; subst hEn
  exact L_X9_countHolding_E hE hΓ hd v1  σ _ h hR
set_option maxRecDepth 100000 in
set_option maxHeartbeats 4000000 in
theorem L_X11_fact_E {Γ : fhX} (hE : fhEok fhYF (fhEn Γ)) (hΓ : fhOk fhYF 11 cX11_fact 3 (some .int) Γ) (hd : 3 ≤ fhD Γ) (v1 : Int32) (v2 : Int32)  (σ : fhM) (o : Int32) (h : f_X11_fact v1 v2 σ = some o) (hk : (fun o => fhRet Γ (some (.int o)) σ) o) : fhW fhYF Γ 0 [(0, .ref 0), (1, .int v1), (2, .int v2)] [] σ := by
  unfold f_X11_fact at h
  refine fhW.blk fhPF fhLL hΓ [(.aload_n 0, 0), (.iload_n 1, 0)] (pc' := 2) (lv' := [(0, .ref 0), (1, .int v1), (2, .int v2)]) (st' := [.int v1, .ref 0]) (σ' := σ) (by decide +kernel) rfl rfl rfl ?_
  refine fhW.callv hΓ mvX11_isFact ml_11_229 (t := 0) (ci := 11) (av := [.int v1]) (rest := []) (r := (some (.int (fhb (f_X11_isFact v1 σ))))) (σ' := σ) (T_X11_isFact (E := fhEn Γ) (d := fhD Γ - 1) hE (by omega) v1 σ) (by omega) (by decide +kernel) rfl rfl rfl (Nat.le_of_ble_eq_true rfl) rfl ?_
  show fhW fhYF Γ 5 [(0, .ref 0), (1, .int v1), (2, .int v2)] [.int (fhb (f_X11_isFact v1 σ))] σ
  refine fhW.b_ne hΓ (tgt := 10) (show fhbk _ _ (.ifCond .ne (5)) _ = true by decide +kernel) (fun hc => ?_) (fun hc => ?_)
  · rw [if_pos hc] at h
    refine fhW.blk fhPF fhLL hΓ [(.iload_n 2, 0)] (pc' := 11) (lv' := [(0, .ref 0), (1, .int v1), (2, .int v2)]) (st' := [.int v2]) (σ' := σ) (by decide +kernel) rfl rfl rfl ?_
    refine fhW.tsw hΓ (dflt := 71) (lo := 0) (hi := 2) (offs := #[25, 44, 62]) (len := 25) (td := 82) [(0, 36), (1, 55), (2, 73)] (by decide +kernel) ?_
    refine fhsw_c (fun hc => ?_) (fun hc => ?_)
    · rw [if_pos hc] at h
      refine fhW.blk fhPF fhLL hΓ [(.aload_n 0, 0), (.getfield 63, 0), (.aload_n 0, 0), (.getfield 72, 0), (.getfield 208, 0), (.iload_n 1, 0)] (pc' := 48) (lv' := [(0, .ref 0), (1, .int v1), (2, .int v2)]) (st' := [.int v1, .int (σ.1 56 9), .ref 39]) (σ' := σ) (by decide +kernel) rfl rfl rfl ?_
      refine fhW.callv hΓ mvX9_holdsIn ml_11_232 (t := 39) (ci := 9) (av := [.int (σ.1 56 9), .int v1]) (rest := []) (r := (some (.int (fhb (f_X9_holdsIn (σ.1 56 9) v1 σ))))) (σ' := σ) (T_X9_holdsIn (E := fhEn Γ) (d := fhD Γ - 1) hE (by omega) (σ.1 56 9) v1 σ) (by omega) (by decide +kernel) rfl rfl rfl (Nat.le_of_ble_eq_true rfl) rfl ?_
      show fhW fhYF Γ 51 [(0, .ref 0), (1, .int v1), (2, .int v2)] [.int (fhb (f_X9_holdsIn (σ.1 56 9) v1 σ))] σ
      refine fhW.calls hΓ msX11_one ml_11_222 (av := [.int (fhb (f_X9_holdsIn (σ.1 56 9) v1 σ))]) (rest := []) (r := (some (.int (f_X11_one (fhb (f_X9_holdsIn (σ.1 56 9) v1 σ)) σ)))) (σ' := σ) (T_X11_one (E := fhEn Γ) (d := fhD Γ - 1) hE (by omega) (fhb (f_X9_holdsIn (σ.1 56 9) v1 σ)) σ) (by omega) (by decide +kernel) rfl (Nat.le_of_ble_eq_true rfl) rfl ?_
      show fhW fhYF Γ 54 [(0, .ref 0), (1, .int v1), (2, .int v2)] [.int (f_X11_one (fhb (f_X9_holdsIn (σ.1 56 9) v1 σ)) σ)] σ
      have e9 := Option.some.inj h
      subst e9
      exact fhW.iret hΓ (by decide +kernel) hk
    rw [if_neg hc] at h
    refine fhsw_c (fun hc => ?_) (fun hc => ?_)
    · rw [if_pos hc] at h
      refine fhW.blk fhPF fhLL hΓ [(.aload_n 0, 0), (.getfield 72, 0), (.aload_n 0, 0), (.getfield 63, 0), (.getfield 236, 0), (.iconst 1, 1), (.iload_n 1, 0), (.ishl, 0)] (pc' := 69) (lv' := [(0, .ref 0), (1, .int v1), (2, .int v2)]) (st' := [.int ((1 : Int32) <<< (v1 &&& 31)), .ref 52, .ref 56]) (σ' := σ) (by decide +kernel) rfl rfl rfl ?_
      obtain ⟨q1, hb1, h⟩ := Option.bind_eq_some_iff.mp h
      refine fhW.callv hΓ mvX4_countAlike ml_11_239 (t := 56) (ci := 4) (av := [.ref 52, .int ((1 : Int32) <<< (v1 &&& 31))]) (rest := []) (r := (some (.int q1))) (σ' := σ) (T_X4_countAlike (E := fhEn Γ) (d := fhD Γ - 1) hE (by omega) 52 ((1 : Int32) <<< (v1 &&& 31)) rfl σ hb1) (by omega) (by decide +kernel) rfl rfl rfl (Nat.le_of_ble_eq_true rfl) rfl ?_
      show fhW fhYF Γ 72 [(0, .ref 0), (1, .int v1), (2, .int v2)] [.int q1] σ
      have e9 := Option.some.inj h
      subst e9
      exact fhW.iret hΓ (by decide +kernel) hk
    rw [if_neg hc] at h
    refine fhsw_c (fun hc => ?_) (fun hc => ?_)
    · rw [if_pos hc] at h
      refine fhW.blk fhPF fhLL hΓ [(.aload_n 0, 0), (.getfield 63, 0), (.iload_n 1, 0)] (pc' := 78) (lv' := [(0, .ref 0), (1, .int v1), (2, .int v2)]) (st' := [.int v1, .ref 39]) (σ' := σ) (by decide +kernel) rfl rfl rfl ?_
      obtain ⟨q2, hb2, h⟩ := Option.bind_eq_some_iff.mp h
      refine fhW.callv hΓ mvX9_countHolding ml_11_243 (t := 39) (ci := 9) (av := [.int v1]) (rest := []) (r := (some (.int q2))) (σ' := σ) (T_X9_countHolding (E := fhEn Γ) (d := fhD Γ - 1) hE (by omega) v1 σ hb2) (by omega) (by decide +kernel) rfl rfl rfl (Nat.le_of_ble_eq_true rfl) rfl ?_
      show fhW fhYF Γ 81 [(0, .ref 0), (1, .int v1), (2, .int v2)] [.int q2] σ
      have e9 := Option.some.inj h
      subst e9
      exact fhW.iret hΓ (by decide +kernel) hk
    rw [if_neg hc] at h
    refine fhsw_n ?_
    refine fhW.blk fhPF fhLL hΓ [(.iconst (-1), -1)] (pc' := 83) (lv' := [(0, .ref 0), (1, .int v1), (2, .int v2)]) (st' := [.int (-1 : Int32)]) (σ' := σ) (by decide +kernel) rfl rfl rfl ?_
    have e9 := Option.some.inj h
    subst e9
    exact fhW.iret hΓ (by decide +kernel) hk
  · rw [if_neg hc] at h
    refine fhW.blk fhPF fhLL hΓ [(.iconst (-1), -1)] (pc' := 9) (lv' := [(0, .ref 0), (1, .int v1), (2, .int v2)]) (st' := [.int (-1 : Int32)]) (σ' := σ) (by decide +kernel) rfl rfl rfl ?_
    have e9 := Option.some.inj h
    subst e9
    exact fhW.iret hΓ (by decide +kernel) hk
set_option maxRecDepth 100000 in
theorem T_X11_fact {E : fhE} {d : Nat} (hE : fhEok fhYF E) (hd : 3 ≤ d) (v1 : Int32) (v2 : Int32)  (σ : fhM) {o : Int32} (h : f_X11_fact v1 v2 σ = some o) : fhC fhYF E d miX11_fact [.ref 0, .int v1, .int v2] σ (some (.int o)) σ := by
  refine fhC.of (y := yX11_fact) (cc := cX11_fact) (nL := 3) (ret := (some .int)) 11 rfl (by decide +kernel) (Nat.le_of_ble_eq_true rfl) ?_
  intro Γ hΓ hR hD hEn
  subst hD; subst hEn
  exact L_X11_fact_E hE hΓ hd v1 v2  σ _ h hR
set_option maxRecDepth 100000 in
set_option maxHeartbeats 4000000 in
theorem L_X11_left_E {Γ : fhX} (hE : fhEok fhYF (fhEn Γ)) (hΓ : fhOk fhYF 11 cX11_left 2 (some .int) Γ) (hd : 1 ≤ fhD Γ) (v1 : Int32)  (σ : fhM) (o : Int32) (h : f_X11_left v1 σ = o) (hk : (fun o => fhRet Γ (some (.int o)) σ) o) : fhW fhYF Γ 0 [(0, .ref 0), (1, .int v1)] [] σ := by
  unfold f_X11_left at h
  refine fhW.blk fhPF fhLL hΓ [(.iload_n 1, 0)] (pc' := 1) (lv' := [(0, .ref 0), (1, .int v1)]) (st' := [.int v1]) (σ' := σ) (by decide +kernel) rfl rfl rfl ?_
  refine fhW.z_lt hΓ (tgt := 29) (show fhbk _ _ (.ifCond .lt (28)) _ = true by decide +kernel) (fun hc => ?_) (fun hc => ?_)
  · rw [if_pos hc] at h
    refine fhW.blk fhPF fhLL hΓ [(.iconst (-1), -1)] (pc' := 30) (lv' := [(0, .ref 0), (1, .int v1)]) (st' := [.int (-1 : Int32)]) (σ' := σ) (by decide +kernel) rfl rfl rfl ?_
    subst h
    exact fhW.iret hΓ (by decide +kernel) hk
  · rw [if_neg hc] at h
    refine fhW.blk fhPF fhLL hΓ [(.iload_n 1, 0), (.aload_n 0, 0), (.getfield 72, 0), (.getfield 178, 0)] (pc' := 12) (lv' := [(0, .ref 0), (1, .int v1)]) (st' := [.int (σ.1 56 8), .int v1]) (σ' := σ) (by decide +kernel) rfl rfl rfl ?_
    refine fhW.i_ge hΓ (tgt := 29) (show fhbk _ _ (.if_icmp .ge (17)) _ = true by decide +kernel) (fun hc => ?_) (fun hc => ?_)
    · rw [if_pos hc] at h
      refine fhW.blk fhPF fhLL hΓ [(.iconst (-1), -1)] (pc' := 30) (lv' := [(0, .ref 0), (1, .int v1)]) (st' := [.int (-1 : Int32)]) (σ' := σ) (by decide +kernel) rfl rfl rfl ?_
      subst h
      exact fhW.iret hΓ (by decide +kernel) hk
    · rw [if_neg hc] at h
      refine fhW.blk fhPF fhLL hΓ [(.aload_n 0, 0), (.getfield 72, 0), (.getfield 246, 0), (.iload_n 1, 0)] (pc' := 23) (lv' := [(0, .ref 0), (1, .int v1)]) (st' := [.int v1, .ref 72]) (σ' := σ) (by decide +kernel) rfl rfl rfl ?_
      refine fhW.callv hΓ mvX2_get ml_11_117 (t := 72) (ci := 2) (av := [.int v1]) (rest := []) (r := (some (.int (fcG σ 72 v1)))) (σ' := σ) (T_X2_get (E := fhEn Γ) (d := fhD Γ - 1) hE (by omega) 72 v1 rfl σ) (by omega) (by decide +kernel) rfl rfl rfl (Nat.le_of_ble_eq_true rfl) rfl ?_
      show fhW fhYF Γ 26 [(0, .ref 0), (1, .int v1)] [.int (fcG σ 72 v1)] σ
      refine fhW.goto hΓ (off := 4) (tgt := 30) (by decide +kernel) ?_
      subst h
      exact fhW.iret hΓ (by decide +kernel) hk
set_option maxRecDepth 100000 in
theorem T_X11_left {E : fhE} {d : Nat} (hE : fhEok fhYF E) (hd : 1 ≤ d) (v1 : Int32)  (σ : fhM) : fhC fhYF E d miX11_left [.ref 0, .int v1] σ (some (.int (f_X11_left v1 σ))) σ := by
  refine fhC.of (y := yX11_left) (cc := cX11_left) (nL := 2) (ret := (some .int)) 11 rfl (by decide +kernel) (Nat.le_of_ble_eq_true rfl) ?_
  intro Γ hΓ hR hD hEn
  subst hD; subst hEn
  exact L_X11_left_E hE hΓ hd v1  σ _ rfl hR
set_option maxRecDepth 100000 in
set_option maxHeartbeats 4000000 in
theorem L_X11_wears_E {Γ : fhX} (hE : fhEok fhYF (fhEn Γ)) (hΓ : fhOk fhYF 11 cX11_wears 3 (some .int) Γ) (hd : 2 ≤ fhD Γ) (v1 : Int32) (v2 : Int32)  (σ : fhM) (o : Int32) (h : f_X11_wears v1 v2 σ = o) (hk : (fun o => fhRet Γ (some (.int o)) σ) o) : fhW fhYF Γ 0 [(0, .ref 0), (1, .int v1), (2, .int v2)] [] σ := by
  unfold f_X11_wears at h
  refine fhW.blk fhPF fhLL hΓ [(.aload_n 0, 0), (.iload_n 2, 0)] (pc' := 2) (lv' := [(0, .ref 0), (1, .int v1), (2, .int v2)]) (st' := [.int v2, .ref 0]) (σ' := σ) (by decide +kernel) rfl rfl rfl ?_
  refine fhW.callv hΓ mvX11_isGuest ml_11_201 (t := 0) (ci := 11) (av := [.int v2]) (rest := []) (r := (some (.int (fhb (f_X11_isGuest v2 σ))))) (σ' := σ) (T_X11_isGuest (E := fhEn Γ) (d := fhD Γ - 1) hE (by omega) v2 σ) (by omega) (by decide +kernel) rfl rfl rfl (Nat.le_of_ble_eq_true rfl) rfl ?_
  show fhW fhYF Γ 5 [(0, .ref 0), (1, .int v1), (2, .int v2)] [.int (fhb (f_X11_isGuest v2 σ))] σ
  refine fhW.b_eq hΓ (tgt := 23) (show fhbk _ _ (.ifCond .eq (18)) _ = true by decide +kernel) (fun hc => ?_) (fun hc => ?_)
  · rw [if_neg hc] at h
    refine fhW.blk fhPF fhLL hΓ [(.iconst (-1), -1)] (pc' := 24) (lv' := [(0, .ref 0), (1, .int v1), (2, .int v2)]) (st' := [.int (-1 : Int32)]) (σ' := σ) (by decide +kernel) rfl rfl rfl ?_
    subst h
    exact fhW.iret hΓ (by decide +kernel) hk
  · rw [if_pos hc] at h
    refine fhW.blk fhPF fhLL hΓ [(.iload_n 1, 0)] (pc' := 9) (lv' := [(0, .ref 0), (1, .int v1), (2, .int v2)]) (st' := [.int v1]) (σ' := σ) (by decide +kernel) rfl rfl rfl ?_
    refine fhW.z_lt hΓ (tgt := 23) (show fhbk _ _ (.ifCond .lt (14)) _ = true by decide +kernel) (fun hc => ?_) (fun hc => ?_)
    · rw [if_pos hc] at h
      refine fhW.blk fhPF fhLL hΓ [(.iconst (-1), -1)] (pc' := 24) (lv' := [(0, .ref 0), (1, .int v1), (2, .int v2)]) (st' := [.int (-1 : Int32)]) (σ' := σ) (by decide +kernel) rfl rfl rfl ?_
      subst h
      exact fhW.iret hΓ (by decide +kernel) hk
    · rw [if_neg hc] at h
      refine fhW.blk fhPF fhLL hΓ [(.iload_n 1, 0), (.aload_n 0, 0), (.getfield 63, 0), (.getfield 249, 0)] (pc' := 20) (lv' := [(0, .ref 0), (1, .int v1), (2, .int v2)]) (st' := [.int (σ.1 39 11), .int v1]) (σ' := σ) (by decide +kernel) rfl rfl rfl ?_
      refine fhW.i_lt hΓ (tgt := 25) (show fhbk _ _ (.if_icmp .lt (5)) _ = true by decide +kernel) (fun hc => ?_) (fun hc => ?_)
      · rw [if_pos hc] at h
        refine fhW.blk fhPF fhLL hΓ [(.aload_n 0, 0), (.getfield 63, 0), (.iload_n 1, 0), (.iload_n 2, 0)] (pc' := 31) (lv' := [(0, .ref 0), (1, .int v1), (2, .int v2)]) (st' := [.int v2, .int v1, .ref 39]) (σ' := σ) (by decide +kernel) rfl rfl rfl ?_
        refine fhW.callv hΓ mvX9_markOf ml_11_209 (t := 39) (ci := 9) (av := [.int v1, .int v2]) (rest := []) (r := (some (.int (f_X9_markOf v1 v2 σ)))) (σ' := σ) (T_X9_markOf (E := fhEn Γ) (d := fhD Γ - 1) hE (by omega) v1 v2 σ) (by omega) (by decide +kernel) rfl rfl rfl (Nat.le_of_ble_eq_true rfl) rfl ?_
        show fhW fhYF Γ 34 [(0, .ref 0), (1, .int v1), (2, .int v2)] [.int (f_X9_markOf v1 v2 σ)] σ
        subst h
        exact fhW.iret hΓ (by decide +kernel) hk
      · rw [if_neg hc] at h
        refine fhW.blk fhPF fhLL hΓ [(.iconst (-1), -1)] (pc' := 24) (lv' := [(0, .ref 0), (1, .int v1), (2, .int v2)]) (st' := [.int (-1 : Int32)]) (σ' := σ) (by decide +kernel) rfl rfl rfl ?_
        subst h
        exact fhW.iret hΓ (by decide +kernel) hk
set_option maxRecDepth 100000 in
theorem T_X11_wears {E : fhE} {d : Nat} (hE : fhEok fhYF E) (hd : 2 ≤ d) (v1 : Int32) (v2 : Int32)  (σ : fhM) : fhC fhYF E d miX11_wears [.ref 0, .int v1, .int v2] σ (some (.int (f_X11_wears v1 v2 σ))) σ := by
  refine fhC.of (y := yX11_wears) (cc := cX11_wears) (nL := 3) (ret := (some .int)) 11 rfl (by decide +kernel) (Nat.le_of_ble_eq_true rfl) ?_
  intro Γ hΓ hR hD hEn
  subst hD; subst hEn
  exact L_X11_wears_E hE hΓ hd v1 v2  σ _ rfl hR
set_option maxRecDepth 100000 in
set_option maxHeartbeats 4000000 in
theorem L_X6_entry_E {Γ : fhX} (hE : fhEok fhYF (fhEn Γ)) (hΓ : fhOk fhYF 6 cX6_entry 4 (some .int) Γ) (hd : 2 ≤ fhD Γ) (v1 : Int32) (v2 : Int32)  (σ : fhM) (o : Int32) (h : f_X6_entry v1 v2 σ = o) (hk : (fun o => fhRet Γ (some (.int o)) σ) o) : fhW fhYF Γ 0 [(0, .ref 93), (1, .int v1), (2, .int v2)] [] σ := by
  unfold f_X6_entry at h
  refine fhW.blk fhPF fhLL hΓ [(.aload_n 0, 0), (.getfield 23, 0), (.aload_n 0, 0)] (pc' := 5) (lv' := [(0, .ref 93), (1, .int v1), (2, .int v2)]) (st' := [.ref 93, .int (σ.1 93 1)]) (σ' := σ) (by decide +kernel) rfl rfl rfl ?_
  refine fhW.callv hΓ mvX6_toldCount ml_6_43 (t := 93) (ci := 6) (av := []) (rest := [.int (σ.1 93 1)]) (r := (some (.int (f_X6_toldCount σ)))) (σ' := σ) (T_X6_toldCount (E := fhEn Γ) (d := fhD Γ - 1) hE (by omega) σ) (by omega) (by decide +kernel) rfl rfl rfl (Nat.le_of_ble_eq_true rfl) rfl ?_
  show fhW fhYF Γ 8 [(0, .ref 93), (1, .int v1), (2, .int v2)] [.int (f_X6_toldCount σ), .int (σ.1 93 1)] σ
  refine fhW.blk fhPF fhLL hΓ [(.isub, 0), (.iload_n 1, 0), (.iadd, 0), (.istore_n 3, 0), (.aload_n 0, 0), (.getfield 16, 0), (.iconst 4, 4), (.iload_n 3, 0), (.sipush 511, 511), (.iand, 0), (.imul, 0), (.iload_n 2, 0), (.iadd, 0)] (pc' := 25) (lv' := [(3, .int (((σ.1 93 1) - (f_X6_toldCount σ)) + v1)), (0, .ref 93), (1, .int v1), (2, .int v2)]) (st' := [.int (((4 : Int32) * ((((σ.1 93 1) - (f_X6_toldCount σ)) + v1) &&& (511 : Int32))) + v2), .ref 94]) (σ' := σ) (by decide +kernel) rfl rfl rfl ?_
  refine fhW.callv hΓ mvX2_get ml_6_47 (t := 94) (ci := 2) (av := [.int (((4 : Int32) * ((((σ.1 93 1) - (f_X6_toldCount σ)) + v1) &&& (511 : Int32))) + v2)]) (rest := []) (r := (some (.int (fcG σ 94 (((4 : Int32) * ((((σ.1 93 1) - (f_X6_toldCount σ)) + v1) &&& (511 : Int32))) + v2))))) (σ' := σ) (T_X2_get (E := fhEn Γ) (d := fhD Γ - 1) hE (by omega) 94 (((4 : Int32) * ((((σ.1 93 1) - (f_X6_toldCount σ)) + v1) &&& (511 : Int32))) + v2) rfl σ) (by omega) (by decide +kernel) rfl rfl rfl (Nat.le_of_ble_eq_true rfl) rfl ?_
  show fhW fhYF Γ 28 [(3, .int (((σ.1 93 1) - (f_X6_toldCount σ)) + v1)), (0, .ref 93), (1, .int v1), (2, .int v2)] [.int (fcG σ 94 (((4 : Int32) * ((((σ.1 93 1) - (f_X6_toldCount σ)) + v1) &&& (511 : Int32))) + v2))] σ
  subst h
  exact fhW.iret hΓ (by decide +kernel) hk
set_option maxRecDepth 100000 in
theorem T_X6_entry {E : fhE} {d : Nat} (hE : fhEok fhYF E) (hd : 2 ≤ d) (v1 : Int32) (v2 : Int32)  (σ : fhM) : fhC fhYF E d miX6_entry [.ref 93, .int v1, .int v2] σ (some (.int (f_X6_entry v1 v2 σ))) σ := by
  refine fhC.of (y := yX6_entry) (cc := cX6_entry) (nL := 4) (ret := (some .int)) 6 rfl (by decide +kernel) (Nat.le_of_ble_eq_true rfl) ?_
  intro Γ hΓ hR hD hEn
  subst hD; subst hEn
  exact L_X6_entry_E hE hΓ hd v1 v2  σ _ rfl hR
set_option maxRecDepth 100000 in
set_option maxHeartbeats 4000000 in
theorem L_X11_kept_E {Γ : fhX} (hE : fhEok fhYF (fhEn Γ)) (hΓ : fhOk fhYF 11 cX11_kept 3 (some .int) Γ) (hd : 3 ≤ fhD Γ) (v1 : Int32) (v2 : Int32)  (σ : fhM) (o : Int32) (h : f_X11_kept v1 v2 σ = o) (hk : (fun o => fhRet Γ (some (.int o)) σ) o) : fhW fhYF Γ 0 [(0, .ref 0), (1, .int v1), (2, .int v2)] [] σ := by
  unfold f_X11_kept at h
  refine fhW.blk fhPF fhLL hΓ [(.iload_n 1, 0)] (pc' := 1) (lv' := [(0, .ref 0), (1, .int v1), (2, .int v2)]) (st' := [.int v1]) (σ' := σ) (by decide +kernel) rfl rfl rfl ?_
  refine fhW.z_lt hΓ (tgt := 24) (show fhbk _ _ (.ifCond .lt (23)) _ = true by decide +kernel) (fun hc => ?_) (fun hc => ?_)
  · rw [if_pos hc] at h
    refine fhW.blk fhPF fhLL hΓ [(.iconst (-1), -1)] (pc' := 25) (lv' := [(0, .ref 0), (1, .int v1), (2, .int v2)]) (st' := [.int (-1 : Int32)]) (σ' := σ) (by decide +kernel) rfl rfl rfl ?_
    subst h
    exact fhW.iret hΓ (by decide +kernel) hk
  · rw [if_neg hc] at h
    refine fhW.blk fhPF fhLL hΓ [(.iload_n 1, 0), (.aload_n 0, 0), (.getfield 86, 0)] (pc' := 9) (lv' := [(0, .ref 0), (1, .int v1), (2, .int v2)]) (st' := [.ref 93, .int v1]) (σ' := σ) (by decide +kernel) rfl rfl rfl ?_
    refine fhW.callv hΓ mvX6_toldCount ml_11_192 (t := 93) (ci := 6) (av := []) (rest := [.int v1]) (r := (some (.int (f_X6_toldCount σ)))) (σ' := σ) (T_X6_toldCount (E := fhEn Γ) (d := fhD Γ - 1) hE (by omega) σ) (by omega) (by decide +kernel) rfl rfl rfl (Nat.le_of_ble_eq_true rfl) rfl ?_
    show fhW fhYF Γ 12 [(0, .ref 0), (1, .int v1), (2, .int v2)] [.int (f_X6_toldCount σ), .int v1] σ
    refine fhW.i_ge hΓ (tgt := 24) (show fhbk _ _ (.if_icmp .ge (12)) _ = true by decide +kernel) (fun hc => ?_) (fun hc => ?_)
    · rw [if_pos hc] at h
      refine fhW.blk fhPF fhLL hΓ [(.iconst (-1), -1)] (pc' := 25) (lv' := [(0, .ref 0), (1, .int v1), (2, .int v2)]) (st' := [.int (-1 : Int32)]) (σ' := σ) (by decide +kernel) rfl rfl rfl ?_
      subst h
      exact fhW.iret hΓ (by decide +kernel) hk
    · rw [if_neg hc] at h
      refine fhW.blk fhPF fhLL hΓ [(.iload_n 2, 0)] (pc' := 16) (lv' := [(0, .ref 0), (1, .int v1), (2, .int v2)]) (st' := [.int v2]) (σ' := σ) (by decide +kernel) rfl rfl rfl ?_
      refine fhW.z_lt hΓ (tgt := 24) (show fhbk _ _ (.ifCond .lt (8)) _ = true by decide +kernel) (fun hc => ?_) (fun hc => ?_)
      · rw [if_pos hc] at h
        refine fhW.blk fhPF fhLL hΓ [(.iconst (-1), -1)] (pc' := 25) (lv' := [(0, .ref 0), (1, .int v1), (2, .int v2)]) (st' := [.int (-1 : Int32)]) (σ' := σ) (by decide +kernel) rfl rfl rfl ?_
        subst h
        exact fhW.iret hΓ (by decide +kernel) hk
      · rw [if_neg hc] at h
        refine fhW.blk fhPF fhLL hΓ [(.iload_n 2, 0), (.iconst 3, 3)] (pc' := 21) (lv' := [(0, .ref 0), (1, .int v1), (2, .int v2)]) (st' := [.int (3 : Int32), .int v2]) (σ' := σ) (by decide +kernel) rfl rfl rfl ?_
        refine fhW.i_le hΓ (tgt := 26) (show fhbk _ _ (.if_icmp .le (5)) _ = true by decide +kernel) (fun hc => ?_) (fun hc => ?_)
        · rw [if_pos hc] at h
          refine fhW.blk fhPF fhLL hΓ [(.aload_n 0, 0), (.getfield 86, 0), (.iload_n 1, 0), (.iload_n 2, 0)] (pc' := 32) (lv' := [(0, .ref 0), (1, .int v1), (2, .int v2)]) (st' := [.int v2, .int v1, .ref 93]) (σ' := σ) (by decide +kernel) rfl rfl rfl ?_
          refine fhW.callv hΓ mvX6_entry ml_11_252 (t := 93) (ci := 6) (av := [.int v1, .int v2]) (rest := []) (r := (some (.int (f_X6_entry v1 v2 σ)))) (σ' := σ) (T_X6_entry (E := fhEn Γ) (d := fhD Γ - 1) hE (by omega) v1 v2 σ) (by omega) (by decide +kernel) rfl rfl rfl (Nat.le_of_ble_eq_true rfl) rfl ?_
          show fhW fhYF Γ 35 [(0, .ref 0), (1, .int v1), (2, .int v2)] [.int (f_X6_entry v1 v2 σ)] σ
          subst h
          exact fhW.iret hΓ (by decide +kernel) hk
        · rw [if_neg hc] at h
          refine fhW.blk fhPF fhLL hΓ [(.iconst (-1), -1)] (pc' := 25) (lv' := [(0, .ref 0), (1, .int v1), (2, .int v2)]) (st' := [.int (-1 : Int32)]) (σ' := σ) (by decide +kernel) rfl rfl rfl ?_
          subst h
          exact fhW.iret hΓ (by decide +kernel) hk
set_option maxRecDepth 100000 in
theorem T_X11_kept {E : fhE} {d : Nat} (hE : fhEok fhYF E) (hd : 3 ≤ d) (v1 : Int32) (v2 : Int32)  (σ : fhM) : fhC fhYF E d miX11_kept [.ref 0, .int v1, .int v2] σ (some (.int (f_X11_kept v1 v2 σ))) σ := by
  refine fhC.of (y := yX11_kept) (cc := cX11_kept) (nL := 3) (ret := (some .int)) 11 rfl (by decide +kernel) (Nat.le_of_ble_eq_true rfl) ?_
  intro Γ hΓ hR hD hEn
  subst hD; subst hEn
  exact L_X11_kept_E hE hΓ hd v1 v2  σ _ rfl hR
set_option maxRecDepth 100000 in
set_option maxHeartbeats 4000000 in
theorem L_X4_knowsOf_65 {Γ : fhX} (hE : fhEok fhYF (fhEn Γ)) (hΓ : fhOk fhYF 4 cX4_knowsOf 8 (some .int) Γ) (hd : 3 ≤ fhD Γ) (v1 : Int32) (v2 : Int32) (v3 : Int32) (v4 : Int32) (v5 : Int32)  (σ : fhM) (o : (Int32 × Int32 × Int32) ⊕ (Int32)) (h : f_X4_knowsOf_65 v1 v2 v3 v4 v5 σ = some o) (hk : (fhK (fun x => fhW fhYF Γ 8 [(0, .ref 56), (1, .int v1), (2, .int v2), (3, .int x.1), (4, .int x.2.1), (5, .int x.2.2)] [] σ) (fun o => fhRet Γ (some (.int o)) σ)) o) : fhW fhYF Γ 65 [(0, .ref 56), (1, .int v1), (2, .int v2), (3, .int v3), (4, .int v4), (5, .int v5)] [] σ := by
  unfold f_X4_knowsOf_65 at h
  refine fhW.blk fhPF fhLL hΓ [(.iinc 5 1, 1)] (pc' := 68) (lv' := [(5, .int (v5 + (1 : Int32))), (0, .ref 56), (1, .int v1), (2, .int v2), (3, .int v3), (4, .int v4)]) (st' := []) (σ' := σ) (by decide +kernel) rfl rfl rfl ?_
  refine fhW.goto hΓ (off := (-60)) (tgt := 8) (by decide +kernel) ?_
  refine fhW.sub (lv' := [(0, .ref 56), (1, .int v1), (2, .int v2), (3, .int v3), (4, .int v4), (5, .int (v5 + (1 : Int32)))]) [1, 2, 3, 4, 5, 0] rfl ?_
  have e9 := Option.some.inj h
  subst e9
  exact hk
set_option maxRecDepth 100000 in
set_option maxHeartbeats 4000000 in
theorem L_X4_knowsOf_8 {Γ : fhX} (hE : fhEok fhYF (fhEn Γ)) (hΓ : fhOk fhYF 4 cX4_knowsOf 8 (some .int) Γ) (hd : 3 ≤ fhD Γ) (v1 : Int32) (v2 : Int32) (v3 : Int32) (v4 : Int32) (v5 : Int32)  (σ : fhM) (o : (Int32 × Int32 × Int32) ⊕ (Int32)) (h : f_X4_knowsOf_8 v1 v2 v3 v4 v5 σ = some o) (hk : (fhK (fun x => fhW fhYF Γ 8 [(0, .ref 56), (1, .int v1), (2, .int v2), (3, .int x.1), (4, .int x.2.1), (5, .int x.2.2)] [] σ) (fun o => fhRet Γ (some (.int o)) σ)) o) : fhW fhYF Γ 8 [(0, .ref 56), (1, .int v1), (2, .int v2), (3, .int v3), (4, .int v4), (5, .int v5)] [] σ := by
  unfold f_X4_knowsOf_8 at h
  refine fhW.blk fhPF fhLL hΓ [(.iload 5, 0), (.aload_n 0, 0), (.getfield 63, 0)] (pc' := 14) (lv' := [(0, .ref 56), (1, .int v1), (2, .int v2), (3, .int v3), (4, .int v4), (5, .int v5)]) (st' := [.int (σ.1 56 8), .int v5]) (σ' := σ) (by decide +kernel) rfl rfl rfl ?_
  refine fhW.i_ge hΓ (tgt := 71) (show fhbk _ _ (.if_icmp .ge (57)) _ = true by decide +kernel) (fun hc => ?_) (fun hc => ?_)
  · rw [if_pos hc] at h
    refine fhW.blk fhPF fhLL hΓ [(.iload_n 3, 0), (.iconst 1, 1)] (pc' := 73) (lv' := [(0, .ref 56), (1, .int v1), (2, .int v2), (3, .int v3), (4, .int v4), (5, .int v5)]) (st' := [.int (1 : Int32), .int v3]) (σ' := σ) (by decide +kernel) rfl rfl rfl ?_
    refine fhW.i_ne hΓ (tgt := 78) (show fhbk _ _ (.if_icmp .ne (5)) _ = true by decide +kernel) (fun hc => ?_) (fun hc => ?_)
    · rw [if_neg hc] at h
      refine fhW.blk fhPF fhLL hΓ [(.iload 4, 0)] (pc' := 80) (lv' := [(0, .ref 56), (1, .int v1), (2, .int v2), (3, .int v3), (4, .int v4), (5, .int v5)]) (st' := [.int v4]) (σ' := σ) (by decide +kernel) rfl rfl rfl ?_
      refine fhW.z_ne hΓ (tgt := 87) (show fhbk _ _ (.ifCond .ne (7)) _ = true by decide +kernel) (fun hc => ?_) (fun hc => ?_)
      · rw [if_neg hc] at h
        refine fhW.blk fhPF fhLL hΓ [(.iconst 0, 0)] (pc' := 88) (lv' := [(0, .ref 56), (1, .int v1), (2, .int v2), (3, .int v3), (4, .int v4), (5, .int v5)]) (st' := [.int (0 : Int32)]) (σ' := σ) (by decide +kernel) rfl rfl rfl ?_
        have e9 := Option.some.inj h
        subst e9
        exact fhW.iret hΓ (by decide +kernel) hk
      · rw [if_pos hc] at h
        refine fhW.blk fhPF fhLL hΓ [(.iconst 2, 2)] (pc' := 84) (lv' := [(0, .ref 56), (1, .int v1), (2, .int v2), (3, .int v3), (4, .int v4), (5, .int v5)]) (st' := [.int (2 : Int32)]) (σ' := σ) (by decide +kernel) rfl rfl rfl ?_
        refine fhW.goto hΓ (off := 4) (tgt := 88) (by decide +kernel) ?_
        have e9 := Option.some.inj h
        subst e9
        exact fhW.iret hΓ (by decide +kernel) hk
    · rw [if_pos hc] at h
      refine fhW.blk fhPF fhLL hΓ [(.iconst 1, 1)] (pc' := 77) (lv' := [(0, .ref 56), (1, .int v1), (2, .int v2), (3, .int v3), (4, .int v4), (5, .int v5)]) (st' := [.int (1 : Int32)]) (σ' := σ) (by decide +kernel) rfl rfl rfl ?_
      have e9 := Option.some.inj h
      subst e9
      exact fhW.iret hΓ (by decide +kernel) hk
  · rw [if_neg hc] at h
    refine fhW.blk fhPF fhLL hΓ [(.aload_n 0, 0), (.getfield 36, 0), (.iload 5, 0)] (pc' := 23) (lv' := [(0, .ref 56), (1, .int v1), (2, .int v2), (3, .int v3), (4, .int v4), (5, .int v5)]) (st' := [.int v5, .ref 72]) (σ' := σ) (by decide +kernel) rfl rfl rfl ?_
    refine fhW.callv hΓ mvX2_get ml_4_55 (t := 72) (ci := 2) (av := [.int v5]) (rest := []) (r := (some (.int (fcG σ 72 v5)))) (σ' := σ) (T_X2_get (E := fhEn Γ) (d := fhD Γ - 1) hE (by omega) 72 v5 rfl σ) (by omega) (by decide +kernel) rfl rfl rfl (Nat.le_of_ble_eq_true rfl) rfl ?_
    show fhW fhYF Γ 26 [(0, .ref 56), (1, .int v1), (2, .int v2), (3, .int v3), (4, .int v4), (5, .int v5)] [.int (fcG σ 72 v5)] σ
    refine fhW.blk fhPF fhLL hΓ [(.istore 6, 0), (.aload_n 0, 0), (.iload_n 1, 0), (.iload 6, 0)] (pc' := 32) (lv' := [(6, .int (fcG σ 72 v5)), (0, .ref 56), (1, .int v1), (2, .int v2), (3, .int v3), (4, .int v4), (5, .int v5)]) (st' := [.int (fcG σ 72 v5), .int v1, .ref 56]) (σ' := σ) (by decide +kernel) rfl rfl rfl ?_
    refine fhW.callv hΓ mvX4_isRowOf ml_4_90 (t := 56) (ci := 4) (av := [.int v1, .int (fcG σ 72 v5)]) (rest := []) (r := (some (.int (fhb (f_X4_isRowOf v1 (fcG σ 72 v5) σ))))) (σ' := σ) (T_X4_isRowOf (E := fhEn Γ) (d := fhD Γ - 1) hE (by omega) v1 (fcG σ 72 v5) σ) (by omega) (by decide +kernel) rfl rfl rfl (Nat.le_of_ble_eq_true rfl) rfl ?_
    show fhW fhYF Γ 35 [(6, .int (fcG σ 72 v5)), (0, .ref 56), (1, .int v1), (2, .int v2), (3, .int v3), (4, .int v4), (5, .int v5)] [.int (fhb (f_X4_isRowOf v1 (fcG σ 72 v5) σ))] σ
    refine fhW.b_eq hΓ (tgt := 65) (show fhbk _ _ (.ifCond .eq (30)) _ = true by decide +kernel) (fun hc => ?_) (fun hc => ?_)
    · rw [if_neg hc] at h
      refine fhW.sub (lv' := [(0, .ref 56), (1, .int v1), (2, .int v2), (3, .int v3), (4, .int v4), (5, .int v5)]) [1, 2, 3, 4, 5, 6] rfl ?_
      exact L_X4_knowsOf_65 hE hΓ hd v1 v2 v3 v4 v5 σ _ h hk
    · rw [if_pos hc] at h
      refine fhW.blk fhPF fhLL hΓ [(.aload_n 0, 0), (.getfield 39, 0), (.iload 6, 0)] (pc' := 44) (lv' := [(6, .int (fcG σ 72 v5)), (0, .ref 56), (1, .int v1), (2, .int v2), (3, .int v3), (4, .int v4), (5, .int v5)]) (st' := [.int (fcG σ 72 v5), .ref 74]) (σ' := σ) (by decide +kernel) rfl rfl rfl ?_
      refine fhW.callv hΓ mvX2_get ml_4_55 (t := 74) (ci := 2) (av := [.int (fcG σ 72 v5)]) (rest := []) (r := (some (.int (fcG σ 74 (fcG σ 72 v5))))) (σ' := σ) (T_X2_get (E := fhEn Γ) (d := fhD Γ - 1) hE (by omega) 74 (fcG σ 72 v5) rfl σ) (by omega) (by decide +kernel) rfl rfl rfl (Nat.le_of_ble_eq_true rfl) rfl ?_
      show fhW fhYF Γ 47 [(6, .int (fcG σ 72 v5)), (0, .ref 56), (1, .int v1), (2, .int v2), (3, .int v3), (4, .int v4), (5, .int v5)] [.int (fcG σ 74 (fcG σ 72 v5))] σ
      refine fhW.blk fhPF fhLL hΓ [(.iload_n 2, 0), (.ishr, 0), (.iconst 1, 1), (.iand, 0), (.istore 7, 0)] (pc' := 53) (lv' := [(7, .int (((fcG σ 74 (fcG σ 72 v5)) >>> (v2 &&& 31)) &&& (1 : Int32))), (6, .int (fcG σ 72 v5)), (0, .ref 56), (1, .int v1), (2, .int v2), (3, .int v3), (4, .int v4), (5, .int v5)]) (st' := []) (σ' := σ) (by decide +kernel) rfl rfl rfl ?_
      obtain ⟨w7_1, e1, h⟩ := fhlet_elim h
      rw [← e1]
      refine fhW.blk fhPF fhLL hΓ [(.iload_n 3, 0), (.iload 7, 0), (.iand, 0), (.istore_n 3, 0), (.iload 4, 0), (.iload 7, 0), (.ior, 0), (.istore 4, 0)] (pc' := 65) (lv' := [(4, .int (v4 ||| w7_1)), (3, .int (v3 &&& w7_1)), (7, .int w7_1), (6, .int (fcG σ 72 v5)), (0, .ref 56), (1, .int v1), (2, .int v2), (5, .int v5)]) (st' := []) (σ' := σ) (by decide +kernel) rfl rfl rfl ?_
      refine fhW.sub (lv' := [(0, .ref 56), (1, .int v1), (2, .int v2), (3, .int (v3 &&& w7_1)), (4, .int (v4 ||| w7_1)), (5, .int v5)]) [4, 5, 6, 1, 0, 7] rfl ?_
      exact L_X4_knowsOf_65 hE hΓ hd v1 v2 (v3 &&& w7_1) (v4 ||| w7_1) v5 σ _ h hk
set_option maxRecDepth 100000 in
set_option maxHeartbeats 4000000 in
theorem L_X4_knowsOf_E {Γ : fhX} (hE : fhEok fhYF (fhEn Γ)) (hΓ : fhOk fhYF 4 cX4_knowsOf 8 (some .int) Γ) (hd : 3 ≤ fhD Γ) (v1 : Int32) (v2 : Int32)  (σ : fhM) (o : Int32) (h : f_X4_knowsOf v1 v2 σ = some o) (hk : (fun o => fhRet Γ (some (.int o)) σ) o) : fhW fhYF Γ 0 [(0, .ref 56), (1, .int v1), (2, .int v2)] [] σ := by
  unfold f_X4_knowsOf at h
  refine fhW.blk fhPF fhLL hΓ [(.iconst 1, 1), (.istore_n 3, 0), (.iconst 0, 0), (.istore 4, 0), (.iconst 0, 0), (.istore 5, 0)] (pc' := 8) (lv' := [(5, .int (0 : Int32)), (4, .int (0 : Int32)), (3, .int (1 : Int32)), (0, .ref 56), (1, .int v1), (2, .int v2)]) (st' := []) (σ' := σ) (by decide +kernel) rfl rfl rfl ?_
  refine fhW.sub (lv' := [(0, .ref 56), (1, .int v1), (2, .int v2), (3, .int (1 : Int32)), (4, .int (0 : Int32)), (5, .int (0 : Int32))]) [3, 4, 5, 2, 1, 0] rfl ?_
  exact fhlp_ok (W := (fun x => fhW fhYF Γ 8 [(0, .ref 56), (1, .int v1), (2, .int v2), (3, .int x.1), (4, .int x.2.1), (5, .int x.2.2)] [] σ)) (B := (fun o => fhRet Γ (some (.int o)) σ)) (fun x o h hk => L_X4_knowsOf_8 hE hΓ hd v1 v2 x.1 x.2.1 x.2.2 σ o h hk) ((1 : Int32), (0 : Int32), (0 : Int32)) _ h hk
set_option maxRecDepth 100000 in
theorem T_X4_knowsOf {E : fhE} {d : Nat} (hE : fhEok fhYF E) (hd : 3 ≤ d) (v1 : Int32) (v2 : Int32)  (σ : fhM) {o : Int32} (h : f_X4_knowsOf v1 v2 σ = some o) : fhC fhYF E d miX4_knowsOf [.ref 56, .int v1, .int v2] σ (some (.int o)) σ := by
  refine fhC.of (y := yX4_knowsOf) (cc := cX4_knowsOf) (nL := 8) (ret := (some .int)) 4 rfl (by decide +kernel) (Nat.le_of_ble_eq_true rfl) ?_
  intro Γ hΓ hR hD hEn
  subst hD; subst hEn
  exact L_X4_knowsOf_E hE hΓ hd v1 v2  σ _ h hR
set_option maxRecDepth 100000 in
set_option maxHeartbeats 4000000 in
theorem L_X11_knows_E {Γ : fhX} (hE : fhEok fhYF (fhEn Γ)) (hΓ : fhOk fhYF 11 cX11_knows 3 (some .int) Γ) (hd : 4 ≤ fhD Γ) (v1 : Int32) (v2 : Int32)  (σ : fhM) (o : Int32) (h : f_X11_knows v1 v2 σ = some o) (hk : (fun o => fhRet Γ (some (.int o)) σ) o) : fhW fhYF Γ 0 [(0, .ref 0), (1, .int v1), (2, .int v2)] [] σ := by
  unfold f_X11_knows at h
  refine fhW.blk fhPF fhLL hΓ [(.aload_n 0, 0), (.iload_n 1, 0), (.iload_n 2, 0)] (pc' := 3) (lv' := [(0, .ref 0), (1, .int v1), (2, .int v2)]) (st' := [.int v2, .int v1, .ref 0]) (σ' := σ) (by decide +kernel) rfl rfl rfl ?_
  refine fhW.callv hΓ mvX11_isPair ml_11_255 (t := 0) (ci := 11) (av := [.int v1, .int v2]) (rest := []) (r := (some (.int (fhb (f_X11_isPair v1 v2 σ))))) (σ' := σ) (T_X11_isPair (E := fhEn Γ) (d := fhD Γ - 1) hE (by omega) v1 v2 σ) (by omega) (by decide +kernel) rfl rfl rfl (Nat.le_of_ble_eq_true rfl) rfl ?_
  show fhW fhYF Γ 6 [(0, .ref 0), (1, .int v1), (2, .int v2)] [.int (fhb (f_X11_isPair v1 v2 σ))] σ
  refine fhW.b_eq hΓ (tgt := 21) (show fhbk _ _ (.ifCond .eq (15)) _ = true by decide +kernel) (fun hc => ?_) (fun hc => ?_)
  · rw [if_neg hc] at h
    refine fhW.blk fhPF fhLL hΓ [(.iconst (-1), -1)] (pc' := 22) (lv' := [(0, .ref 0), (1, .int v1), (2, .int v2)]) (st' := [.int (-1 : Int32)]) (σ' := σ) (by decide +kernel) rfl rfl rfl ?_
    have e9 := Option.some.inj h
    subst e9
    exact fhW.iret hΓ (by decide +kernel) hk
  · rw [if_pos hc] at h
    refine fhW.blk fhPF fhLL hΓ [(.aload_n 0, 0), (.getfield 72, 0), (.iload_n 1, 0), (.iload_n 2, 0)] (pc' := 15) (lv' := [(0, .ref 0), (1, .int v1), (2, .int v2)]) (st' := [.int v2, .int v1, .ref 56]) (σ' := σ) (by decide +kernel) rfl rfl rfl ?_
    obtain ⟨q1, hb1, h⟩ := Option.bind_eq_some_iff.mp h
    refine fhW.callv hΓ mvX4_knowsOf ml_11_258 (t := 56) (ci := 4) (av := [.int v1, .int v2]) (rest := []) (r := (some (.int q1))) (σ' := σ) (T_X4_knowsOf (E := fhEn Γ) (d := fhD Γ - 1) hE (by omega) v1 v2 σ hb1) (by omega) (by decide +kernel) rfl rfl rfl (Nat.le_of_ble_eq_true rfl) rfl ?_
    show fhW fhYF Γ 18 [(0, .ref 0), (1, .int v1), (2, .int v2)] [.int q1] σ
    refine fhW.goto hΓ (off := 4) (tgt := 22) (by decide +kernel) ?_
    have e9 := Option.some.inj h
    subst e9
    exact fhW.iret hΓ (by decide +kernel) hk
set_option maxRecDepth 100000 in
theorem T_X11_knows {E : fhE} {d : Nat} (hE : fhEok fhYF E) (hd : 4 ≤ d) (v1 : Int32) (v2 : Int32)  (σ : fhM) {o : Int32} (h : f_X11_knows v1 v2 σ = some o) : fhC fhYF E d miX11_knows [.ref 0, .int v1, .int v2] σ (some (.int o)) σ := by
  refine fhC.of (y := yX11_knows) (cc := cX11_knows) (nL := 3) (ret := (some .int)) 11 rfl (by decide +kernel) (Nat.le_of_ble_eq_true rfl) ?_
  intro Γ hΓ hR hD hEn
  subst hD; subst hEn
  exact L_X11_knows_E hE hΓ hd v1 v2  σ _ h hR
set_option maxRecDepth 100000 in
set_option maxHeartbeats 4000000 in
theorem L_X4_deepen_217 {Γ : fhX} (hE : fhEok fhYF (fhEn Γ)) (hΓ : fhOk fhYF 4 cX4_deepen 4 none Γ) (hd : 2 ≤ fhD Γ) (v1 : Int32)  (σ : fhM) (o : (Int32 × fhM) ⊕ (fhM)) (h : f_X4_deepen_217 v1 σ = some o) (hk : (fhK (fun x => fhW fhYF Γ 217 [(0, .ref 56), (1, .int x.1)] [] x.2) (fun o => fhRet Γ none o)) o) : fhW fhYF Γ 217 [(0, .ref 56), (1, .int v1)] [] σ := by
  unfold f_X4_deepen_217 at h
  refine fhW.blk fhPF fhLL hΓ [(.iload_n 1, 0), (.aload_n 0, 0), (.getfield 63, 0)] (pc' := 222) (lv' := [(0, .ref 56), (1, .int v1)]) (st' := [.int (σ.1 56 8), .int v1]) (σ' := σ) (by decide +kernel) rfl rfl rfl ?_
  refine fhW.i_ge hΓ (tgt := 256) (show fhbk _ _ (.if_icmp .ge (34)) _ = true by decide +kernel) (fun hc => ?_) (fun hc => ?_)
  · rw [if_pos hc] at h
    have e9 := Option.some.inj h
    subst e9
    exact fhW.vret hΓ (by decide +kernel) hk
  · rw [if_neg hc] at h
    refine fhW.blk fhPF fhLL hΓ [(.aload_n 0, 0), (.getfield 36, 0), (.iload_n 1, 0)] (pc' := 230) (lv' := [(0, .ref 56), (1, .int v1)]) (st' := [.int v1, .ref 72]) (σ' := σ) (by decide +kernel) rfl rfl rfl ?_
    refine fhW.callv hΓ mvX2_get ml_4_55 (t := 72) (ci := 2) (av := [.int v1]) (rest := []) (r := (some (.int (fcG σ 72 v1)))) (σ' := σ) (T_X2_get (E := fhEn Γ) (d := fhD Γ - 1) hE (by omega) 72 v1 rfl σ) (by omega) (by decide +kernel) rfl rfl rfl (Nat.le_of_ble_eq_true rfl) rfl ?_
    show fhW fhYF Γ 233 [(0, .ref 56), (1, .int v1)] [.int (fcG σ 72 v1)] σ
    refine fhW.blk fhPF fhLL hΓ [(.istore_n 2, 0), (.aload_n 0, 0), (.getfield 23, 0), (.iload_n 2, 0), (.aload_n 0, 0), (.getfield 27, 0), (.iload_n 2, 0)] (pc' := 244) (lv' := [(2, .int (fcG σ 72 v1)), (0, .ref 56), (1, .int v1)]) (st' := [.int (fcG σ 72 v1), .ref 66, .int (fcG σ 72 v1), .ref 64]) (σ' := σ) (by decide +kernel) rfl rfl rfl ?_
    refine fhW.callv hΓ mvX2_get ml_4_55 (t := 66) (ci := 2) (av := [.int (fcG σ 72 v1)]) (rest := [.int (fcG σ 72 v1), .ref 64]) (r := (some (.int (fcG σ 66 (fcG σ 72 v1))))) (σ' := σ) (T_X2_get (E := fhEn Γ) (d := fhD Γ - 1) hE (by omega) 66 (fcG σ 72 v1) rfl σ) (by omega) (by decide +kernel) rfl rfl rfl (Nat.le_of_ble_eq_true rfl) rfl ?_
    show fhW fhYF Γ 247 [(2, .int (fcG σ 72 v1)), (0, .ref 56), (1, .int v1)] [.int (fcG σ 66 (fcG σ 72 v1)), .int (fcG σ 72 v1), .ref 64] σ
    refine fhW.callv hΓ mvX2_put ml_4_59 (t := 64) (ci := 2) (av := [.int (fcG σ 72 v1), .int (fcG σ 66 (fcG σ 72 v1))]) (rest := []) (r := none) (σ' := (fcP σ 64 (fcG σ 72 v1) (fcG σ 66 (fcG σ 72 v1)))) (T_X2_put (E := fhEn Γ) (d := fhD Γ - 1) hE (by omega) 64 (fcG σ 72 v1) (fcG σ 66 (fcG σ 72 v1)) rfl σ) (by omega) (by decide +kernel) rfl rfl rfl (Nat.le_of_ble_eq_true rfl) rfl ?_
    show fhW fhYF Γ 250 [(2, .int (fcG σ 72 v1)), (0, .ref 56), (1, .int v1)] [] (fcP σ 64 (fcG σ 72 v1) (fcG σ 66 (fcG σ 72 v1)))
    refine fhW.blk fhPF fhLL hΓ [(.iinc 1 1, 1)] (pc' := 253) (lv' := [(1, .int (v1 + (1 : Int32))), (2, .int (fcG σ 72 v1)), (0, .ref 56)]) (st' := []) (σ' := (fcP σ 64 (fcG σ 72 v1) (fcG σ 66 (fcG σ 72 v1)))) (by decide +kernel) rfl rfl rfl ?_
    refine fhW.goto hΓ (off := (-36)) (tgt := 217) (by decide +kernel) ?_
    refine fhW.sub (lv' := [(0, .ref 56), (1, .int (v1 + (1 : Int32)))]) [2, 0] rfl ?_
    have e9 := Option.some.inj h
    subst e9
    exact hk
set_option maxRecDepth 100000 in
set_option maxHeartbeats 4000000 in
theorem L_X4_deepen_168 {Γ : fhX} (hE : fhEok fhYF (fhEn Γ)) (hΓ : fhOk fhYF 4 cX4_deepen 4 none Γ) (hd : 2 ≤ fhD Γ) (v1 : Int32) (v2 : Int32)  (σ : fhM) (o : (Int32 × fhM) ⊕ ((Int32 × fhM) ⊕ (fhM))) (h : f_X4_deepen_168 v1 v2 σ = some o) (hk : (fhK (fun x => fhW fhYF Γ 168 [(0, .ref 56), (1, .int v1), (2, .int x.1)] [] x.2) (fhK (fun x => fhW fhYF Γ 43 [(0, .ref 56), (1, .int x.1)] [] x.2) (fun o => fhRet Γ none o))) o) : fhW fhYF Γ 168 [(0, .ref 56), (1, .int v1), (2, .int v2)] [] σ := by
  unfold f_X4_deepen_168 at h
  refine fhW.blk fhPF fhLL hΓ [(.iload_n 2, 0), (.aload_n 0, 0), (.getfield 63, 0)] (pc' := 173) (lv' := [(0, .ref 56), (1, .int v1), (2, .int v2)]) (st' := [.int (σ.1 56 8), .int v2]) (σ' := σ) (by decide +kernel) rfl rfl rfl ?_
  refine fhW.i_ge hΓ (tgt := 209) (show fhbk _ _ (.if_icmp .ge (36)) _ = true by decide +kernel) (fun hc => ?_) (fun hc => ?_)
  · rw [if_pos hc] at h
    refine fhW.blk fhPF fhLL hΓ [(.iinc 1 1, 1)] (pc' := 212) (lv' := [(1, .int (v1 + (1 : Int32))), (0, .ref 56), (2, .int v2)]) (st' := []) (σ' := σ) (by decide +kernel) rfl rfl rfl ?_
    refine fhW.goto hΓ (off := (-169)) (tgt := 43) (by decide +kernel) ?_
    refine fhW.sub (lv' := [(0, .ref 56), (1, .int (v1 + (1 : Int32)))]) [1, 0] rfl ?_
    have e9 := Option.some.inj h
    subst e9
    exact hk
  · rw [if_neg hc] at h
    refine fhW.blk fhPF fhLL hΓ [(.aload_n 0, 0), (.getfield 42, 0)] (pc' := 180) (lv' := [(0, .ref 56), (1, .int v1), (2, .int v2)]) (st' := [.ref 39]) (σ' := σ) (by decide +kernel) rfl rfl rfl ?_
    refine fhW.nest hE hΓ (by decide +kernel) ?_
    refine fhW.blk fhPF fhLL hΓ [(.aload_n 0, 0), (.getfield 42, 0), (.aload_n 0, 0), (.getfield 36, 0), (.iload_n 2, 0)] (pc' := 192) (lv' := [(0, .ref 56), (1, .int v1), (2, .int v2)]) (st' := [.int v2, .ref 72, .ref 39, .ref 48]) (σ' := σ) (by decide +kernel) rfl rfl rfl ?_
    refine fhW.callv hΓ mvX2_get ml_4_55 (t := 72) (ci := 2) (av := [.int v2]) (rest := [.ref 39, .ref 48]) (r := (some (.int (fcG σ 72 v2)))) (σ' := σ) (T_X2_get (E := fhEn Γ) (d := fhD Γ - 1) hE (by omega) 72 v2 rfl σ) (by omega) (by decide +kernel) rfl rfl rfl (Nat.le_of_ble_eq_true rfl) rfl ?_
    show fhW fhYF Γ 195 [(0, .ref 56), (1, .int v1), (2, .int v2)] [.int (fcG σ 72 v2), .ref 39, .ref 48] σ
    refine fhW.blk fhPF fhLL hΓ [(.iload_n 1, 0)] (pc' := 196) (lv' := [(0, .ref 56), (1, .int v1), (2, .int v2)]) (st' := [.int v1, .int (fcG σ 72 v2), .ref 39, .ref 48]) (σ' := σ) (by decide +kernel) rfl rfl rfl ?_
    refine fhW.callv hΓ mvX9_viewOf ml_4_86 (t := 39) (ci := 9) (av := [.int (fcG σ 72 v2), .int v1]) (rest := [.ref 48]) (r := (some (.int (f_X9_viewOf (fcG σ 72 v2) v1 σ)))) (σ' := σ) (T_X9_viewOf (E := fhEn Γ) (d := fhD Γ - 1) hE (by omega) (fcG σ 72 v2) v1 σ) (by omega) (by decide +kernel) rfl rfl rfl (Nat.le_of_ble_eq_true rfl) rfl ?_
    show fhW fhYF Γ 199 [(0, .ref 56), (1, .int v1), (2, .int v2)] [.int (f_X9_viewOf (fcG σ 72 v2) v1 σ), .ref 48] σ
    refine fhW.blk fhPF fhLL hΓ [(.iconst 0, 0)] (pc' := 200) (lv' := [(0, .ref 56), (1, .int v1), (2, .int v2)]) (st' := [.int (0 : Int32), .int (f_X9_viewOf (fcG σ 72 v2) v1 σ), .ref 48]) (σ' := σ) (by decide +kernel) rfl rfl rfl ?_
    refine fhW.callv hΓ mvX2_put ml_4_59 (t := 48) (ci := 2) (av := [.int (f_X9_viewOf (fcG σ 72 v2) v1 σ), .int (0 : Int32)]) (rest := []) (r := none) (σ' := (fcP σ 48 (f_X9_viewOf (fcG σ 72 v2) v1 σ) (0 : Int32))) (T_X2_put (E := fhEn Γ) (d := fhD Γ - 1) hE (by omega) 48 (f_X9_viewOf (fcG σ 72 v2) v1 σ) (0 : Int32) rfl σ) (by omega) (by decide +kernel) rfl rfl rfl (Nat.le_of_ble_eq_true rfl) rfl ?_
    show fhW fhYF Γ 203 [(0, .ref 56), (1, .int v1), (2, .int v2)] [] (fcP σ 48 (f_X9_viewOf (fcG σ 72 v2) v1 σ) (0 : Int32))
    refine fhW.blk fhPF fhLL hΓ [(.iinc 2 1, 1)] (pc' := 206) (lv' := [(2, .int (v2 + (1 : Int32))), (0, .ref 56), (1, .int v1)]) (st' := []) (σ' := (fcP σ 48 (f_X9_viewOf (fcG σ 72 v2) v1 σ) (0 : Int32))) (by decide +kernel) rfl rfl rfl ?_
    refine fhW.goto hΓ (off := (-38)) (tgt := 168) (by decide +kernel) ?_
    refine fhW.sub (lv' := [(0, .ref 56), (1, .int v1), (2, .int (v2 + (1 : Int32)))]) [1, 2, 0] rfl ?_
    have e9 := Option.some.inj h
    subst e9
    exact hk
set_option maxRecDepth 100000 in
set_option maxHeartbeats 4000000 in
theorem L_X4_deepen_160 {Γ : fhX} (hE : fhEok fhYF (fhEn Γ)) (hΓ : fhOk fhYF 4 cX4_deepen 4 none Γ) (hd : 2 ≤ fhD Γ) (v1 : Int32) (v2 : Int32)  (σ : fhM) (o : (Int32 × fhM) ⊕ ((Int32 × fhM) ⊕ (fhM))) (h : f_X4_deepen_160 v1 v2 σ = some o) (hk : (fhK (fun x => fhW fhYF Γ 112 [(0, .ref 56), (1, .int v1), (2, .int x.1)] [] x.2) (fhK (fun x => fhW fhYF Γ 43 [(0, .ref 56), (1, .int x.1)] [] x.2) (fun o => fhRet Γ none o))) o) : fhW fhYF Γ 160 [(0, .ref 56), (1, .int v1), (2, .int v2)] [] σ := by
  unfold f_X4_deepen_160 at h
  refine fhW.blk fhPF fhLL hΓ [(.iinc 2 1, 1)] (pc' := 163) (lv' := [(2, .int (v2 + (1 : Int32))), (0, .ref 56), (1, .int v1)]) (st' := []) (σ' := σ) (by decide +kernel) rfl rfl rfl ?_
  refine fhW.goto hΓ (off := (-51)) (tgt := 112) (by decide +kernel) ?_
  refine fhW.sub (lv' := [(0, .ref 56), (1, .int v1), (2, .int (v2 + (1 : Int32)))]) [1, 2, 0] rfl ?_
  have e9 := Option.some.inj h
  subst e9
  exact hk
set_option maxRecDepth 100000 in
set_option maxHeartbeats 4000000 in
theorem L_X4_deepen_112 {Γ : fhX} (hE : fhEok fhYF (fhEn Γ)) (hΓ : fhOk fhYF 4 cX4_deepen 4 none Γ) (hd : 2 ≤ fhD Γ) (v1 : Int32) (v2 : Int32)  (σ : fhM) (o : (Int32 × fhM) ⊕ ((Int32 × fhM) ⊕ (fhM))) (h : f_X4_deepen_112 v1 v2 σ = some o) (hk : (fhK (fun x => fhW fhYF Γ 112 [(0, .ref 56), (1, .int v1), (2, .int x.1)] [] x.2) (fhK (fun x => fhW fhYF Γ 43 [(0, .ref 56), (1, .int x.1)] [] x.2) (fun o => fhRet Γ none o))) o) : fhW fhYF Γ 112 [(0, .ref 56), (1, .int v1), (2, .int v2)] [] σ := by
  unfold f_X4_deepen_112 at h
  refine fhW.blk fhPF fhLL hΓ [(.iload_n 2, 0), (.aload_n 0, 0), (.getfield 63, 0)] (pc' := 117) (lv' := [(0, .ref 56), (1, .int v1), (2, .int v2)]) (st' := [.int (σ.1 56 8), .int v2]) (σ' := σ) (by decide +kernel) rfl rfl rfl ?_
  refine fhW.i_ge hΓ (tgt := 166) (show fhbk _ _ (.if_icmp .ge (49)) _ = true by decide +kernel) (fun hc => ?_) (fun hc => ?_)
  · rw [if_pos hc] at h
    refine fhW.blk fhPF fhLL hΓ [(.iconst 0, 0), (.istore_n 2, 0)] (pc' := 168) (lv' := [(2, .int (0 : Int32)), (0, .ref 56), (1, .int v1)]) (st' := []) (σ' := σ) (by decide +kernel) rfl rfl rfl ?_
    refine fhW.sub (lv' := [(0, .ref 56), (1, .int v1), (2, .int (0 : Int32))]) [1, 2, 0] rfl ?_
    obtain ⟨z1, hz, e1⟩ := Option.map_eq_some_iff.mp h
    clear h
    subst e1
    have h := hz
    have hk : (fhK (fun x => fhW fhYF Γ 43 [(0, .ref 56), (1, .int x.1)] [] x.2) (fun o => fhRet Γ none o)) z1 := hk
    exact fhlp_ok (W := (fun x => fhW fhYF Γ 168 [(0, .ref 56), (1, .int v1), (2, .int x.1)] [] x.2)) (B := (fhK (fun x => fhW fhYF Γ 43 [(0, .ref 56), (1, .int x.1)] [] x.2) (fun o => fhRet Γ none o))) (fun x o h hk => L_X4_deepen_168 hE hΓ hd v1 x.1 x.2 o h hk) ((0 : Int32), σ) _ h hk
  · rw [if_neg hc] at h
    refine fhW.blk fhPF fhLL hΓ [(.aload_n 0, 0), (.getfield 36, 0), (.iload_n 2, 0)] (pc' := 125) (lv' := [(0, .ref 56), (1, .int v1), (2, .int v2)]) (st' := [.int v2, .ref 72]) (σ' := σ) (by decide +kernel) rfl rfl rfl ?_
    refine fhW.callv hΓ mvX2_get ml_4_55 (t := 72) (ci := 2) (av := [.int v2]) (rest := []) (r := (some (.int (fcG σ 72 v2)))) (σ' := σ) (T_X2_get (E := fhEn Γ) (d := fhD Γ - 1) hE (by omega) 72 v2 rfl σ) (by omega) (by decide +kernel) rfl rfl rfl (Nat.le_of_ble_eq_true rfl) rfl ?_
    show fhW fhYF Γ 128 [(0, .ref 56), (1, .int v1), (2, .int v2)] [.int (fcG σ 72 v2)] σ
    refine fhW.blk fhPF fhLL hΓ [(.istore_n 3, 0), (.aload_n 0, 0), (.getfield 42, 0)] (pc' := 133) (lv' := [(3, .int (fcG σ 72 v2)), (0, .ref 56), (1, .int v1), (2, .int v2)]) (st' := [.ref 39]) (σ' := σ) (by decide +kernel) rfl rfl rfl ?_
    refine fhW.nest hE hΓ (by decide +kernel) ?_
    refine fhW.blk fhPF fhLL hΓ [(.aload_n 0, 0), (.getfield 42, 0), (.iload_n 3, 0), (.iload_n 1, 0)] (pc' := 142) (lv' := [(3, .int (fcG σ 72 v2)), (0, .ref 56), (1, .int v1), (2, .int v2)]) (st' := [.int v1, .int (fcG σ 72 v2), .ref 39, .ref 48]) (σ' := σ) (by decide +kernel) rfl rfl rfl ?_
    refine fhW.callv hΓ mvX9_viewOf ml_4_86 (t := 39) (ci := 9) (av := [.int (fcG σ 72 v2), .int v1]) (rest := [.ref 48]) (r := (some (.int (f_X9_viewOf (fcG σ 72 v2) v1 σ)))) (σ' := σ) (T_X9_viewOf (E := fhEn Γ) (d := fhD Γ - 1) hE (by omega) (fcG σ 72 v2) v1 σ) (by omega) (by decide +kernel) rfl rfl rfl (Nat.le_of_ble_eq_true rfl) rfl ?_
    show fhW fhYF Γ 145 [(3, .int (fcG σ 72 v2)), (0, .ref 56), (1, .int v1), (2, .int v2)] [.int (f_X9_viewOf (fcG σ 72 v2) v1 σ), .ref 48] σ
    refine fhW.callv hΓ mvX2_get ml_4_55 (t := 48) (ci := 2) (av := [.int (f_X9_viewOf (fcG σ 72 v2) v1 σ)]) (rest := []) (r := (some (.int (fcG σ 48 (f_X9_viewOf (fcG σ 72 v2) v1 σ))))) (σ' := σ) (T_X2_get (E := fhEn Γ) (d := fhD Γ - 1) hE (by omega) 48 (f_X9_viewOf (fcG σ 72 v2) v1 σ) rfl σ) (by omega) (by decide +kernel) rfl rfl rfl (Nat.le_of_ble_eq_true rfl) rfl ?_
    show fhW fhYF Γ 148 [(3, .int (fcG σ 72 v2)), (0, .ref 56), (1, .int v1), (2, .int v2)] [.int (fcG σ 48 (f_X9_viewOf (fcG σ 72 v2) v1 σ))] σ
    refine fhW.z_eq hΓ (tgt := 160) (show fhbk _ _ (.ifCond .eq (12)) _ = true by decide +kernel) (fun hc => ?_) (fun hc => ?_)
    · rw [if_pos hc] at h
      refine fhW.sub (lv' := [(0, .ref 56), (1, .int v1), (2, .int v2)]) [1, 2, 3] rfl ?_
      exact L_X4_deepen_160 hE hΓ hd v1 v2 σ _ h hk
    · rw [if_neg hc] at h
      refine fhW.blk fhPF fhLL hΓ [(.aload_n 0, 0), (.getfield 27, 0), (.iload_n 3, 0), (.iconst 0, 0)] (pc' := 157) (lv' := [(3, .int (fcG σ 72 v2)), (0, .ref 56), (1, .int v1), (2, .int v2)]) (st' := [.int (0 : Int32), .int (fcG σ 72 v2), .ref 66]) (σ' := σ) (by decide +kernel) rfl rfl rfl ?_
      refine fhW.callv hΓ mvX2_put ml_4_59 (t := 66) (ci := 2) (av := [.int (fcG σ 72 v2), .int (0 : Int32)]) (rest := []) (r := none) (σ' := (fcP σ 66 (fcG σ 72 v2) (0 : Int32))) (T_X2_put (E := fhEn Γ) (d := fhD Γ - 1) hE (by omega) 66 (fcG σ 72 v2) (0 : Int32) rfl σ) (by omega) (by decide +kernel) rfl rfl rfl (Nat.le_of_ble_eq_true rfl) rfl ?_
      show fhW fhYF Γ 160 [(3, .int (fcG σ 72 v2)), (0, .ref 56), (1, .int v1), (2, .int v2)] [] (fcP σ 66 (fcG σ 72 v2) (0 : Int32))
      refine fhW.sub (lv' := [(0, .ref 56), (1, .int v1), (2, .int v2)]) [1, 2, 3] rfl ?_
      exact L_X4_deepen_160 hE hΓ hd v1 v2 (fcP σ 66 (fcG σ 72 v2) (0 : Int32)) _ h hk
set_option maxRecDepth 100000 in
set_option maxHeartbeats 4000000 in
theorem L_X4_deepen_104 {Γ : fhX} (hE : fhEok fhYF (fhEn Γ)) (hΓ : fhOk fhYF 4 cX4_deepen 4 none Γ) (hd : 2 ≤ fhD Γ) (v1 : Int32) (v2 : Int32)  (σ : fhM) (o : (Int32 × fhM) ⊕ ((Int32 × fhM) ⊕ (fhM))) (h : f_X4_deepen_104 v1 v2 σ = some o) (hk : (fhK (fun x => fhW fhYF Γ 56 [(0, .ref 56), (1, .int v1), (2, .int x.1)] [] x.2) (fhK (fun x => fhW fhYF Γ 43 [(0, .ref 56), (1, .int x.1)] [] x.2) (fun o => fhRet Γ none o))) o) : fhW fhYF Γ 104 [(0, .ref 56), (1, .int v1), (2, .int v2)] [] σ := by
  unfold f_X4_deepen_104 at h
  refine fhW.blk fhPF fhLL hΓ [(.iinc 2 1, 1)] (pc' := 107) (lv' := [(2, .int (v2 + (1 : Int32))), (0, .ref 56), (1, .int v1)]) (st' := []) (σ' := σ) (by decide +kernel) rfl rfl rfl ?_
  refine fhW.goto hΓ (off := (-51)) (tgt := 56) (by decide +kernel) ?_
  refine fhW.sub (lv' := [(0, .ref 56), (1, .int v1), (2, .int (v2 + (1 : Int32)))]) [1, 2, 0] rfl ?_
  have e9 := Option.some.inj h
  subst e9
  exact hk
set_option maxRecDepth 100000 in
set_option maxHeartbeats 4000000 in
theorem L_X4_deepen_56 {Γ : fhX} (hE : fhEok fhYF (fhEn Γ)) (hΓ : fhOk fhYF 4 cX4_deepen 4 none Γ) (hd : 2 ≤ fhD Γ) (v1 : Int32) (v2 : Int32)  (σ : fhM) (o : (Int32 × fhM) ⊕ ((Int32 × fhM) ⊕ (fhM))) (h : f_X4_deepen_56 v1 v2 σ = some o) (hk : (fhK (fun x => fhW fhYF Γ 56 [(0, .ref 56), (1, .int v1), (2, .int x.1)] [] x.2) (fhK (fun x => fhW fhYF Γ 43 [(0, .ref 56), (1, .int x.1)] [] x.2) (fun o => fhRet Γ none o))) o) : fhW fhYF Γ 56 [(0, .ref 56), (1, .int v1), (2, .int v2)] [] σ := by
  unfold f_X4_deepen_56 at h
  refine fhW.blk fhPF fhLL hΓ [(.iload_n 2, 0), (.aload_n 0, 0), (.getfield 63, 0)] (pc' := 61) (lv' := [(0, .ref 56), (1, .int v1), (2, .int v2)]) (st' := [.int (σ.1 56 8), .int v2]) (σ' := σ) (by decide +kernel) rfl rfl rfl ?_
  refine fhW.i_ge hΓ (tgt := 110) (show fhbk _ _ (.if_icmp .ge (49)) _ = true by decide +kernel) (fun hc => ?_) (fun hc => ?_)
  · rw [if_pos hc] at h
    refine fhW.blk fhPF fhLL hΓ [(.iconst 0, 0), (.istore_n 2, 0)] (pc' := 112) (lv' := [(2, .int (0 : Int32)), (0, .ref 56), (1, .int v1)]) (st' := []) (σ' := σ) (by decide +kernel) rfl rfl rfl ?_
    refine fhW.sub (lv' := [(0, .ref 56), (1, .int v1), (2, .int (0 : Int32))]) [1, 2, 0] rfl ?_
    obtain ⟨z2, hz, e2⟩ := Option.map_eq_some_iff.mp h
    clear h
    subst e2
    have h := hz
    have hk : (fhK (fun x => fhW fhYF Γ 43 [(0, .ref 56), (1, .int x.1)] [] x.2) (fun o => fhRet Γ none o)) z2 := hk
    exact fhlp_ok (W := (fun x => fhW fhYF Γ 112 [(0, .ref 56), (1, .int v1), (2, .int x.1)] [] x.2)) (B := (fhK (fun x => fhW fhYF Γ 43 [(0, .ref 56), (1, .int x.1)] [] x.2) (fun o => fhRet Γ none o))) (fun x o h hk => L_X4_deepen_112 hE hΓ hd v1 x.1 x.2 o h hk) ((0 : Int32), σ) _ h hk
  · rw [if_neg hc] at h
    refine fhW.blk fhPF fhLL hΓ [(.aload_n 0, 0), (.getfield 36, 0), (.iload_n 2, 0)] (pc' := 69) (lv' := [(0, .ref 56), (1, .int v1), (2, .int v2)]) (st' := [.int v2, .ref 72]) (σ' := σ) (by decide +kernel) rfl rfl rfl ?_
    refine fhW.callv hΓ mvX2_get ml_4_55 (t := 72) (ci := 2) (av := [.int v2]) (rest := []) (r := (some (.int (fcG σ 72 v2)))) (σ' := σ) (T_X2_get (E := fhEn Γ) (d := fhD Γ - 1) hE (by omega) 72 v2 rfl σ) (by omega) (by decide +kernel) rfl rfl rfl (Nat.le_of_ble_eq_true rfl) rfl ?_
    show fhW fhYF Γ 72 [(0, .ref 56), (1, .int v1), (2, .int v2)] [.int (fcG σ 72 v2)] σ
    refine fhW.blk fhPF fhLL hΓ [(.istore_n 3, 0), (.aload_n 0, 0), (.getfield 23, 0), (.iload_n 3, 0)] (pc' := 78) (lv' := [(3, .int (fcG σ 72 v2)), (0, .ref 56), (1, .int v1), (2, .int v2)]) (st' := [.int (fcG σ 72 v2), .ref 64]) (σ' := σ) (by decide +kernel) rfl rfl rfl ?_
    refine fhW.callv hΓ mvX2_get ml_4_55 (t := 64) (ci := 2) (av := [.int (fcG σ 72 v2)]) (rest := []) (r := (some (.int (fcG σ 64 (fcG σ 72 v2))))) (σ' := σ) (T_X2_get (E := fhEn Γ) (d := fhD Γ - 1) hE (by omega) 64 (fcG σ 72 v2) rfl σ) (by omega) (by decide +kernel) rfl rfl rfl (Nat.le_of_ble_eq_true rfl) rfl ?_
    show fhW fhYF Γ 81 [(3, .int (fcG σ 72 v2)), (0, .ref 56), (1, .int v1), (2, .int v2)] [.int (fcG σ 64 (fcG σ 72 v2))] σ
    refine fhW.z_ne hΓ (tgt := 104) (show fhbk _ _ (.ifCond .ne (23)) _ = true by decide +kernel) (fun hc => ?_) (fun hc => ?_)
    · rw [if_neg hc] at h
      refine fhW.sub (lv' := [(0, .ref 56), (1, .int v1), (2, .int v2)]) [1, 2, 3] rfl ?_
      exact L_X4_deepen_104 hE hΓ hd v1 v2 σ _ h hk
    · rw [if_pos hc] at h
      refine fhW.blk fhPF fhLL hΓ [(.aload_n 0, 0), (.getfield 42, 0)] (pc' := 88) (lv' := [(3, .int (fcG σ 72 v2)), (0, .ref 56), (1, .int v1), (2, .int v2)]) (st' := [.ref 39]) (σ' := σ) (by decide +kernel) rfl rfl rfl ?_
      refine fhW.nest hE hΓ (by decide +kernel) ?_
      refine fhW.blk fhPF fhLL hΓ [(.aload_n 0, 0), (.getfield 42, 0), (.iload_n 3, 0), (.iload_n 1, 0)] (pc' := 97) (lv' := [(3, .int (fcG σ 72 v2)), (0, .ref 56), (1, .int v1), (2, .int v2)]) (st' := [.int v1, .int (fcG σ 72 v2), .ref 39, .ref 48]) (σ' := σ) (by decide +kernel) rfl rfl rfl ?_
      refine fhW.callv hΓ mvX9_viewOf ml_4_86 (t := 39) (ci := 9) (av := [.int (fcG σ 72 v2), .int v1]) (rest := [.ref 48]) (r := (some (.int (f_X9_viewOf (fcG σ 72 v2) v1 σ)))) (σ' := σ) (T_X9_viewOf (E := fhEn Γ) (d := fhD Γ - 1) hE (by omega) (fcG σ 72 v2) v1 σ) (by omega) (by decide +kernel) rfl rfl rfl (Nat.le_of_ble_eq_true rfl) rfl ?_
      show fhW fhYF Γ 100 [(3, .int (fcG σ 72 v2)), (0, .ref 56), (1, .int v1), (2, .int v2)] [.int (f_X9_viewOf (fcG σ 72 v2) v1 σ), .ref 48] σ
      refine fhW.blk fhPF fhLL hΓ [(.iconst 1, 1)] (pc' := 101) (lv' := [(3, .int (fcG σ 72 v2)), (0, .ref 56), (1, .int v1), (2, .int v2)]) (st' := [.int (1 : Int32), .int (f_X9_viewOf (fcG σ 72 v2) v1 σ), .ref 48]) (σ' := σ) (by decide +kernel) rfl rfl rfl ?_
      refine fhW.callv hΓ mvX2_put ml_4_59 (t := 48) (ci := 2) (av := [.int (f_X9_viewOf (fcG σ 72 v2) v1 σ), .int (1 : Int32)]) (rest := []) (r := none) (σ' := (fcP σ 48 (f_X9_viewOf (fcG σ 72 v2) v1 σ) (1 : Int32))) (T_X2_put (E := fhEn Γ) (d := fhD Γ - 1) hE (by omega) 48 (f_X9_viewOf (fcG σ 72 v2) v1 σ) (1 : Int32) rfl σ) (by omega) (by decide +kernel) rfl rfl rfl (Nat.le_of_ble_eq_true rfl) rfl ?_
      show fhW fhYF Γ 104 [(3, .int (fcG σ 72 v2)), (0, .ref 56), (1, .int v1), (2, .int v2)] [] (fcP σ 48 (f_X9_viewOf (fcG σ 72 v2) v1 σ) (1 : Int32))
      refine fhW.sub (lv' := [(0, .ref 56), (1, .int v1), (2, .int v2)]) [1, 2, 3] rfl ?_
      exact L_X4_deepen_104 hE hΓ hd v1 v2 (fcP σ 48 (f_X9_viewOf (fcG σ 72 v2) v1 σ) (1 : Int32)) _ h hk
set_option maxRecDepth 100000 in
set_option maxHeartbeats 4000000 in
theorem L_X4_deepen_43 {Γ : fhX} (hE : fhEok fhYF (fhEn Γ)) (hΓ : fhOk fhYF 4 cX4_deepen 4 none Γ) (hd : 2 ≤ fhD Γ) (v1 : Int32)  (σ : fhM) (o : (Int32 × fhM) ⊕ (fhM)) (h : f_X4_deepen_43 v1 σ = some o) (hk : (fhK (fun x => fhW fhYF Γ 43 [(0, .ref 56), (1, .int x.1)] [] x.2) (fun o => fhRet Γ none o)) o) : fhW fhYF Γ 43 [(0, .ref 56), (1, .int v1)] [] σ := by
  unfold f_X4_deepen_43 at h
  refine fhW.blk fhPF fhLL hΓ [(.iload_n 1, 0), (.aload_n 0, 0), (.getfield 42, 0), (.getfield 97, 0)] (pc' := 51) (lv' := [(0, .ref 56), (1, .int v1)]) (st' := [.int (σ.1 39 9), .int v1]) (σ' := σ) (by decide +kernel) rfl rfl rfl ?_
  refine fhW.i_ge hΓ (tgt := 215) (show fhbk _ _ (.if_icmp .ge (164)) _ = true by decide +kernel) (fun hc => ?_) (fun hc => ?_)
  · rw [if_pos hc] at h
    refine fhW.blk fhPF fhLL hΓ [(.iconst 0, 0), (.istore_n 1, 0)] (pc' := 217) (lv' := [(1, .int (0 : Int32)), (0, .ref 56)]) (st' := []) (σ' := σ) (by decide +kernel) rfl rfl rfl ?_
    refine fhW.sub (lv' := [(0, .ref 56), (1, .int (0 : Int32))]) [1, 0] rfl ?_
    obtain ⟨z3, hz, e3⟩ := Option.map_eq_some_iff.mp h
    clear h
    subst e3
    have h := hz
    have hk : (fun o => fhRet Γ none o) z3 := hk
    exact fhlp_ok (W := (fun x => fhW fhYF Γ 217 [(0, .ref 56), (1, .int x.1)] [] x.2)) (B := (fun o => fhRet Γ none o)) (fun x o h hk => L_X4_deepen_217 hE hΓ hd x.1 x.2 o h hk) ((0 : Int32), σ) _ h hk
  · rw [if_neg hc] at h
    refine fhW.blk fhPF fhLL hΓ [(.iconst 0, 0), (.istore_n 2, 0)] (pc' := 56) (lv' := [(2, .int (0 : Int32)), (0, .ref 56), (1, .int v1)]) (st' := []) (σ' := σ) (by decide +kernel) rfl rfl rfl ?_
    refine fhW.sub (lv' := [(0, .ref 56), (1, .int v1), (2, .int (0 : Int32))]) [1, 2, 0] rfl ?_
    exact fhlp_ok (W := (fun x => fhW fhYF Γ 56 [(0, .ref 56), (1, .int v1), (2, .int x.1)] [] x.2)) (B := (fhK (fun x => fhW fhYF Γ 43 [(0, .ref 56), (1, .int x.1)] [] x.2) (fun o => fhRet Γ none o))) (fun x o h hk => L_X4_deepen_56 hE hΓ hd v1 x.1 x.2 o h hk) ((0 : Int32), σ) _ h hk
set_option maxRecDepth 100000 in
set_option maxHeartbeats 4000000 in
theorem L_X4_deepen_2 {Γ : fhX} (hE : fhEok fhYF (fhEn Γ)) (hΓ : fhOk fhYF 4 cX4_deepen 4 none Γ) (hd : 2 ≤ fhD Γ) (v1 : Int32)  (σ : fhM) (o : (Int32 × fhM) ⊕ (fhM)) (h : f_X4_deepen_2 v1 σ = some o) (hk : (fhK (fun x => fhW fhYF Γ 2 [(0, .ref 56), (1, .int x.1)] [] x.2) (fun o => fhRet Γ none o)) o) : fhW fhYF Γ 2 [(0, .ref 56), (1, .int v1)] [] σ := by
  unfold f_X4_deepen_2 at h
  refine fhW.blk fhPF fhLL hΓ [(.iload_n 1, 0), (.aload_n 0, 0), (.getfield 63, 0)] (pc' := 7) (lv' := [(0, .ref 56), (1, .int v1)]) (st' := [.int (σ.1 56 8), .int v1]) (σ' := σ) (by decide +kernel) rfl rfl rfl ?_
  refine fhW.i_ge hΓ (tgt := 41) (show fhbk _ _ (.if_icmp .ge (34)) _ = true by decide +kernel) (fun hc => ?_) (fun hc => ?_)
  · rw [if_pos hc] at h
    refine fhW.blk fhPF fhLL hΓ [(.iconst 0, 0), (.istore_n 1, 0)] (pc' := 43) (lv' := [(1, .int (0 : Int32)), (0, .ref 56)]) (st' := []) (σ' := σ) (by decide +kernel) rfl rfl rfl ?_
    refine fhW.sub (lv' := [(0, .ref 56), (1, .int (0 : Int32))]) [1, 0] rfl ?_
    obtain ⟨z4, hz, e4⟩ := Option.map_eq_some_iff.mp h
    clear h
    subst e4
    have h := hz
    have hk : (fun o => fhRet Γ none o) z4 := hk
    exact fhlp_ok (W := (fun x => fhW fhYF Γ 43 [(0, .ref 56), (1, .int x.1)] [] x.2)) (B := (fun o => fhRet Γ none o)) (fun x o h hk => L_X4_deepen_43 hE hΓ hd x.1 x.2 o h hk) ((0 : Int32), σ) _ h hk
  · rw [if_neg hc] at h
    refine fhW.blk fhPF fhLL hΓ [(.aload_n 0, 0), (.getfield 36, 0), (.iload_n 1, 0)] (pc' := 15) (lv' := [(0, .ref 56), (1, .int v1)]) (st' := [.int v1, .ref 72]) (σ' := σ) (by decide +kernel) rfl rfl rfl ?_
    refine fhW.callv hΓ mvX2_get ml_4_55 (t := 72) (ci := 2) (av := [.int v1]) (rest := []) (r := (some (.int (fcG σ 72 v1)))) (σ' := σ) (T_X2_get (E := fhEn Γ) (d := fhD Γ - 1) hE (by omega) 72 v1 rfl σ) (by omega) (by decide +kernel) rfl rfl rfl (Nat.le_of_ble_eq_true rfl) rfl ?_
    show fhW fhYF Γ 18 [(0, .ref 56), (1, .int v1)] [.int (fcG σ 72 v1)] σ
    refine fhW.blk fhPF fhLL hΓ [(.istore_n 2, 0), (.aload_n 0, 0), (.getfield 27, 0), (.iload_n 2, 0), (.aload_n 0, 0), (.getfield 23, 0), (.iload_n 2, 0)] (pc' := 29) (lv' := [(2, .int (fcG σ 72 v1)), (0, .ref 56), (1, .int v1)]) (st' := [.int (fcG σ 72 v1), .ref 64, .int (fcG σ 72 v1), .ref 66]) (σ' := σ) (by decide +kernel) rfl rfl rfl ?_
    refine fhW.callv hΓ mvX2_get ml_4_55 (t := 64) (ci := 2) (av := [.int (fcG σ 72 v1)]) (rest := [.int (fcG σ 72 v1), .ref 66]) (r := (some (.int (fcG σ 64 (fcG σ 72 v1))))) (σ' := σ) (T_X2_get (E := fhEn Γ) (d := fhD Γ - 1) hE (by omega) 64 (fcG σ 72 v1) rfl σ) (by omega) (by decide +kernel) rfl rfl rfl (Nat.le_of_ble_eq_true rfl) rfl ?_
    show fhW fhYF Γ 32 [(2, .int (fcG σ 72 v1)), (0, .ref 56), (1, .int v1)] [.int (fcG σ 64 (fcG σ 72 v1)), .int (fcG σ 72 v1), .ref 66] σ
    refine fhW.callv hΓ mvX2_put ml_4_59 (t := 66) (ci := 2) (av := [.int (fcG σ 72 v1), .int (fcG σ 64 (fcG σ 72 v1))]) (rest := []) (r := none) (σ' := (fcP σ 66 (fcG σ 72 v1) (fcG σ 64 (fcG σ 72 v1)))) (T_X2_put (E := fhEn Γ) (d := fhD Γ - 1) hE (by omega) 66 (fcG σ 72 v1) (fcG σ 64 (fcG σ 72 v1)) rfl σ) (by omega) (by decide +kernel) rfl rfl rfl (Nat.le_of_ble_eq_true rfl) rfl ?_
    show fhW fhYF Γ 35 [(2, .int (fcG σ 72 v1)), (0, .ref 56), (1, .int v1)] [] (fcP σ 66 (fcG σ 72 v1) (fcG σ 64 (fcG σ 72 v1)))
    refine fhW.blk fhPF fhLL hΓ [(.iinc 1 1, 1)] (pc' := 38) (lv' := [(1, .int (v1 + (1 : Int32))), (2, .int (fcG σ 72 v1)), (0, .ref 56)]) (st' := []) (σ' := (fcP σ 66 (fcG σ 72 v1) (fcG σ 64 (fcG σ 72 v1)))) (by decide +kernel) rfl rfl rfl ?_
    refine fhW.goto hΓ (off := (-36)) (tgt := 2) (by decide +kernel) ?_
    refine fhW.sub (lv' := [(0, .ref 56), (1, .int (v1 + (1 : Int32)))]) [2, 0] rfl ?_
    have e9 := Option.some.inj h
    subst e9
    exact hk
set_option maxRecDepth 100000 in
set_option maxHeartbeats 4000000 in
theorem L_X4_deepen_E {Γ : fhX} (hE : fhEok fhYF (fhEn Γ)) (hΓ : fhOk fhYF 4 cX4_deepen 4 none Γ) (hd : 2 ≤ fhD Γ)   (σ : fhM) (o : fhM) (h : f_X4_deepen σ = some o) (hk : (fun o => fhRet Γ none o) o) : fhW fhYF Γ 0 [(0, .ref 56)] [] σ := by
  unfold f_X4_deepen at h
  refine fhW.blk fhPF fhLL hΓ [(.iconst 0, 0), (.istore_n 1, 0)] (pc' := 2) (lv' := [(1, .int (0 : Int32)), (0, .ref 56)]) (st' := []) (σ' := σ) (by decide +kernel) rfl rfl rfl ?_
  refine fhW.sub (lv' := [(0, .ref 56), (1, .int (0 : Int32))]) [1, 0] rfl ?_
  exact fhlp_ok (W := (fun x => fhW fhYF Γ 2 [(0, .ref 56), (1, .int x.1)] [] x.2)) (B := (fun o => fhRet Γ none o)) (fun x o h hk => L_X4_deepen_2 hE hΓ hd x.1 x.2 o h hk) ((0 : Int32), σ) _ h hk
set_option maxRecDepth 100000 in
theorem T_X4_deepen {E : fhE} {d : Nat} (hE : fhEok fhYF E) (hd : 2 ≤ d)   (σ : fhM) {o : fhM} (h : f_X4_deepen σ = some o) : fhC fhYF E d miX4_deepen [.ref 56] σ none o := by
  refine fhC.of (y := yX4_deepen) (cc := cX4_deepen) (nL := 4) (ret := none) 4 rfl (by decide +kernel) (Nat.le_of_ble_eq_true rfl) ?_
  intro Γ hΓ hR hD hEn
  subst hD; subst hEn
  exact L_X4_deepen_E hE hΓ hd   σ _ h hR
set_option maxRecDepth 100000 in
set_option maxHeartbeats 4000000 in
theorem L_X4_depth_64 {Γ : fhX} (hE : fhEok fhYF (fhEn Γ)) (hΓ : fhOk fhYF 4 cX4_depth 4 (some .int) Γ) (hd : 3 ≤ fhD Γ) (v2 : Int32)  (σ : fhM) (o : (Int32 × fhM) ⊕ (Int32 × fhM)) (h : f_X4_depth_64 v2 σ = some o) (hk : (fhK (fun x => fhW fhYF Γ 64 [(0, .ref 56), (2, .int x.1)] [] x.2) (fun o => fhRet Γ (some (.int o.1)) o.2)) o) : fhW fhYF Γ 64 [(0, .ref 56), (2, .int v2)] [] σ := by
  unfold f_X4_depth_64 at h
  refine fhW.blk fhPF fhLL hΓ [(.iload_n 2, 0), (.bipush 9, 9)] (pc' := 67) (lv' := [(0, .ref 56), (2, .int v2)]) (st' := [.int (9 : Int32), .int v2]) (σ' := σ) (by decide +kernel) rfl rfl rfl ?_
  refine fhW.i_ge hΓ (tgt := 96) (show fhbk _ _ (.if_icmp .ge (29)) _ = true by decide +kernel) (fun hc => ?_) (fun hc => ?_)
  · rw [if_pos hc] at h
    refine fhW.blk fhPF fhLL hΓ [(.bipush 9, 9)] (pc' := 98) (lv' := [(0, .ref 56), (2, .int v2)]) (st' := [.int (9 : Int32)]) (σ' := σ) (by decide +kernel) rfl rfl rfl ?_
    have e9 := Option.some.inj h
    subst e9
    exact fhW.iret hΓ (by decide +kernel) hk
  · rw [if_neg hc] at h
    refine fhW.blk fhPF fhLL hΓ [(.aload_n 0, 0), (.getfield 23, 0), (.aload_n 0, 0), (.getfield 69, 0)] (pc' := 78) (lv' := [(0, .ref 56), (2, .int v2)]) (st' := [.int (σ.1 56 9), .ref 64]) (σ' := σ) (by decide +kernel) rfl rfl rfl ?_
    refine fhW.callv hΓ mvX2_get ml_4_55 (t := 64) (ci := 2) (av := [.int (σ.1 56 9)]) (rest := []) (r := (some (.int (fcG σ 64 (σ.1 56 9))))) (σ' := σ) (T_X2_get (E := fhEn Γ) (d := fhD Γ - 1) hE (by omega) 64 (σ.1 56 9) rfl σ) (by omega) (by decide +kernel) rfl rfl rfl (Nat.le_of_ble_eq_true rfl) rfl ?_
    show fhW fhYF Γ 81 [(0, .ref 56), (2, .int v2)] [.int (fcG σ 64 (σ.1 56 9))] σ
    refine fhW.z_ne hΓ (tgt := 86) (show fhbk _ _ (.ifCond .ne (5)) _ = true by decide +kernel) (fun hc => ?_) (fun hc => ?_)
    · rw [if_neg hc] at h
      refine fhW.blk fhPF fhLL hΓ [(.aload_n 0, 0)] (pc' := 87) (lv' := [(0, .ref 56), (2, .int v2)]) (st' := [.ref 56]) (σ' := σ) (by decide +kernel) rfl rfl rfl ?_
      obtain ⟨q1, hb1, h⟩ := Option.bind_eq_some_iff.mp h
      refine fhW.callv hΓ mvX4_deepen ml_4_100 (t := 56) (ci := 4) (av := []) (rest := []) (r := none) (σ' := q1) (T_X4_deepen (E := fhEn Γ) (d := fhD Γ - 1) hE (by omega) σ hb1) (by omega) (by decide +kernel) rfl rfl rfl (Nat.le_of_ble_eq_true rfl) rfl ?_
      show fhW fhYF Γ 90 [(0, .ref 56), (2, .int v2)] [] q1
      refine fhW.blk fhPF fhLL hΓ [(.iinc 2 1, 1)] (pc' := 93) (lv' := [(2, .int (v2 + (1 : Int32))), (0, .ref 56)]) (st' := []) (σ' := q1) (by decide +kernel) rfl rfl rfl ?_
      refine fhW.goto hΓ (off := (-29)) (tgt := 64) (by decide +kernel) ?_
      refine fhW.sub (lv' := [(0, .ref 56), (2, .int (v2 + (1 : Int32)))]) [1, 0] rfl ?_
      have e9 := Option.some.inj h
      subst e9
      exact hk
    · rw [if_pos hc] at h
      refine fhW.blk fhPF fhLL hΓ [(.iload_n 2, 0)] (pc' := 85) (lv' := [(0, .ref 56), (2, .int v2)]) (st' := [.int v2]) (σ' := σ) (by decide +kernel) rfl rfl rfl ?_
      have e9 := Option.some.inj h
      subst e9
      exact fhW.iret hΓ (by decide +kernel) hk
set_option maxRecDepth 100000 in
set_option maxHeartbeats 4000000 in
theorem L_X4_depth_53 {Γ : fhX} (hE : fhEok fhYF (fhEn Γ)) (hΓ : fhOk fhYF 4 cX4_depth 4 (some .int) Γ) (hd : 3 ≤ fhD Γ) (v1 : Int32) (v2 : Int32) (s0 : Int32) (s1 : Int32)  (σ : fhM) (o : (Int32 × fhM) ⊕ (Int32 × fhM)) (h : f_X4_depth_53 v1 v2 s0 s1 σ = some o) (hk : (fhK (fun x => fhW fhYF Γ 14 [(0, .ref 56), (1, .int v1), (2, .int x.1)] [] x.2) (fun o => fhRet Γ (some (.int o.1)) o.2)) o) : fhW fhYF Γ 53 [(0, .ref 56), (1, .int v1), (2, .int v2)] [.int s0, .int s1, .ref 64] σ := by
  unfold f_X4_depth_53 at h
  refine fhW.callv hΓ mvX2_put ml_4_59 (t := 64) (ci := 2) (av := [.int s1, .int s0]) (rest := []) (r := none) (σ' := (fcP σ 64 s1 s0)) (T_X2_put (E := fhEn Γ) (d := fhD Γ - 1) hE (by omega) 64 s1 s0 rfl σ) (by omega) (by decide +kernel) rfl rfl rfl (Nat.le_of_ble_eq_true rfl) rfl ?_
  show fhW fhYF Γ 56 [(0, .ref 56), (1, .int v1), (2, .int v2)] [] (fcP σ 64 s1 s0)
  refine fhW.blk fhPF fhLL hΓ [(.iinc 2 1, 1)] (pc' := 59) (lv' := [(2, .int (v2 + (1 : Int32))), (0, .ref 56), (1, .int v1)]) (st' := []) (σ' := (fcP σ 64 s1 s0)) (by decide +kernel) rfl rfl rfl ?_
  refine fhW.goto hΓ (off := (-45)) (tgt := 14) (by decide +kernel) ?_
  refine fhW.sub (lv' := [(0, .ref 56), (1, .int v1), (2, .int (v2 + (1 : Int32)))]) [1, 2, 0] rfl ?_
  have e9 := Option.some.inj h
  subst e9
  exact hk
set_option maxRecDepth 100000 in
set_option maxHeartbeats 4000000 in
theorem L_X4_depth_14 {Γ : fhX} (hE : fhEok fhYF (fhEn Γ)) (hΓ : fhOk fhYF 4 cX4_depth 4 (some .int) Γ) (hd : 3 ≤ fhD Γ) (v1 : Int32) (v2 : Int32)  (σ : fhM) (o : (Int32 × fhM) ⊕ (Int32 × fhM)) (h : f_X4_depth_14 v1 v2 σ = some o) (hk : (fhK (fun x => fhW fhYF Γ 14 [(0, .ref 56), (1, .int v1), (2, .int x.1)] [] x.2) (fun o => fhRet Γ (some (.int o.1)) o.2)) o) : fhW fhYF Γ 14 [(0, .ref 56), (1, .int v1), (2, .int v2)] [] σ := by
  unfold f_X4_depth_14 at h
  refine fhW.blk fhPF fhLL hΓ [(.iload_n 2, 0), (.aload_n 0, 0), (.getfield 63, 0)] (pc' := 19) (lv' := [(0, .ref 56), (1, .int v1), (2, .int v2)]) (st' := [.int (σ.1 56 8), .int v2]) (σ' := σ) (by decide +kernel) rfl rfl rfl ?_
  refine fhW.i_ge hΓ (tgt := 62) (show fhbk _ _ (.if_icmp .ge (43)) _ = true by decide +kernel) (fun hc => ?_) (fun hc => ?_)
  · rw [if_pos hc] at h
    refine fhW.blk fhPF fhLL hΓ [(.iconst 0, 0), (.istore_n 2, 0)] (pc' := 64) (lv' := [(2, .int (0 : Int32)), (0, .ref 56), (1, .int v1)]) (st' := []) (σ' := σ) (by decide +kernel) rfl rfl rfl ?_
    refine fhW.sub (lv' := [(0, .ref 56), (2, .int (0 : Int32))]) [1, 0] rfl ?_
    obtain ⟨z1, hz, e1⟩ := Option.map_eq_some_iff.mp h
    clear h
    subst e1
    have h := hz
    have hk : (fun o => fhRet Γ (some (.int o.1)) o.2) z1 := hk
    exact fhlp_ok (W := (fun x => fhW fhYF Γ 64 [(0, .ref 56), (2, .int x.1)] [] x.2)) (B := (fun o => fhRet Γ (some (.int o.1)) o.2)) (fun x o h hk => L_X4_depth_64 hE hΓ hd x.1 x.2 o h hk) ((0 : Int32), σ) _ h hk
  · rw [if_neg hc] at h
    refine fhW.blk fhPF fhLL hΓ [(.aload_n 0, 0), (.getfield 36, 0), (.iload_n 2, 0)] (pc' := 27) (lv' := [(0, .ref 56), (1, .int v1), (2, .int v2)]) (st' := [.int v2, .ref 72]) (σ' := σ) (by decide +kernel) rfl rfl rfl ?_
    refine fhW.callv hΓ mvX2_get ml_4_55 (t := 72) (ci := 2) (av := [.int v2]) (rest := []) (r := (some (.int (fcG σ 72 v2)))) (σ' := σ) (T_X2_get (E := fhEn Γ) (d := fhD Γ - 1) hE (by omega) 72 v2 rfl σ) (by omega) (by decide +kernel) rfl rfl rfl (Nat.le_of_ble_eq_true rfl) rfl ?_
    show fhW fhYF Γ 30 [(0, .ref 56), (1, .int v1), (2, .int v2)] [.int (fcG σ 72 v2)] σ
    refine fhW.blk fhPF fhLL hΓ [(.istore_n 3, 0), (.aload_n 0, 0), (.getfield 23, 0), (.iload_n 3, 0), (.aload_n 0, 0), (.getfield 39, 0), (.iload_n 3, 0)] (pc' := 41) (lv' := [(3, .int (fcG σ 72 v2)), (0, .ref 56), (1, .int v1), (2, .int v2)]) (st' := [.int (fcG σ 72 v2), .ref 74, .int (fcG σ 72 v2), .ref 64]) (σ' := σ) (by decide +kernel) rfl rfl rfl ?_
    refine fhW.callv hΓ mvX2_get ml_4_55 (t := 74) (ci := 2) (av := [.int (fcG σ 72 v2)]) (rest := [.int (fcG σ 72 v2), .ref 64]) (r := (some (.int (fcG σ 74 (fcG σ 72 v2))))) (σ' := σ) (T_X2_get (E := fhEn Γ) (d := fhD Γ - 1) hE (by omega) 74 (fcG σ 72 v2) rfl σ) (by omega) (by decide +kernel) rfl rfl rfl (Nat.le_of_ble_eq_true rfl) rfl ?_
    show fhW fhYF Γ 44 [(3, .int (fcG σ 72 v2)), (0, .ref 56), (1, .int v1), (2, .int v2)] [.int (fcG σ 74 (fcG σ 72 v2)), .int (fcG σ 72 v2), .ref 64] σ
    refine fhW.blk fhPF fhLL hΓ [(.iload_n 1, 0)] (pc' := 45) (lv' := [(3, .int (fcG σ 72 v2)), (0, .ref 56), (1, .int v1), (2, .int v2)]) (st' := [.int v1, .int (fcG σ 74 (fcG σ 72 v2)), .int (fcG σ 72 v2), .ref 64]) (σ' := σ) (by decide +kernel) rfl rfl rfl ?_
    refine fhW.i_ne hΓ (tgt := 52) (show fhbk _ _ (.if_icmp .ne (7)) _ = true by decide +kernel) (fun hc => ?_) (fun hc => ?_)
    · simp only [if_neg hc] at h
      refine fhW.blk fhPF fhLL hΓ [(.iconst 0, 0)] (pc' := 53) (lv' := [(3, .int (fcG σ 72 v2)), (0, .ref 56), (1, .int v1), (2, .int v2)]) (st' := [.int (0 : Int32), .int (fcG σ 72 v2), .ref 64]) (σ' := σ) (by decide +kernel) rfl rfl rfl ?_
      refine fhW.sub (lv' := [(0, .ref 56), (1, .int v1), (2, .int v2)]) [1, 2, 3] rfl ?_
      exact L_X4_depth_53 hE hΓ hd v1 v2 (0 : Int32) (fcG σ 72 v2) σ _ h hk
    · simp only [if_pos hc] at h
      refine fhW.blk fhPF fhLL hΓ [(.iconst 1, 1)] (pc' := 49) (lv' := [(3, .int (fcG σ 72 v2)), (0, .ref 56), (1, .int v1), (2, .int v2)]) (st' := [.int (1 : Int32), .int (fcG σ 72 v2), .ref 64]) (σ' := σ) (by decide +kernel) rfl rfl rfl ?_
      refine fhW.goto hΓ (off := 4) (tgt := 53) (by decide +kernel) ?_
      refine fhW.sub (lv' := [(0, .ref 56), (1, .int v1), (2, .int v2)]) [1, 2, 3] rfl ?_
      exact L_X4_depth_53 hE hΓ hd v1 v2 (1 : Int32) (fcG σ 72 v2) σ _ h hk
set_option maxRecDepth 100000 in
set_option maxHeartbeats 4000000 in
theorem L_X4_depth_E {Γ : fhX} (hE : fhEok fhYF (fhEn Γ)) (hΓ : fhOk fhYF 4 cX4_depth 4 (some .int) Γ) (hd : 3 ≤ fhD Γ)   (σ : fhM) (o : Int32 × fhM) (h : f_X4_depth σ = some o) (hk : (fun o => fhRet Γ (some (.int o.1)) o.2) o) : fhW fhYF Γ 0 [(0, .ref 56)] [] σ := by
  unfold f_X4_depth at h
  refine fhW.blk fhPF fhLL hΓ [(.iconst 1, 1), (.aload_n 0, 0), (.getfield 42, 0), (.getfield 97, 0), (.ishl, 0), (.iconst 1, 1), (.isub, 0), (.istore_n 1, 0)] (pc' := 12) (lv' := [(1, .int (((1 : Int32) <<< ((σ.1 39 9) &&& 31)) - (1 : Int32))), (0, .ref 56)]) (st' := []) (σ' := σ) (by decide +kernel) rfl rfl rfl ?_
  obtain ⟨w1_1, e2, h⟩ := fhlet_elim h
  rw [← e2]
  refine fhW.blk fhPF fhLL hΓ [(.iconst 0, 0), (.istore_n 2, 0)] (pc' := 14) (lv' := [(2, .int (0 : Int32)), (1, .int w1_1), (0, .ref 56)]) (st' := []) (σ' := σ) (by decide +kernel) rfl rfl rfl ?_
  refine fhW.sub (lv' := [(0, .ref 56), (1, .int w1_1), (2, .int (0 : Int32))]) [2, 1, 0] rfl ?_
  exact fhlp_ok (W := (fun x => fhW fhYF Γ 14 [(0, .ref 56), (1, .int w1_1), (2, .int x.1)] [] x.2)) (B := (fun o => fhRet Γ (some (.int o.1)) o.2)) (fun x o h hk => L_X4_depth_14 hE hΓ hd w1_1 x.1 x.2 o h hk) ((0 : Int32), σ) _ h hk
set_option maxRecDepth 100000 in
theorem T_X4_depth {E : fhE} {d : Nat} (hE : fhEok fhYF E) (hd : 3 ≤ d)   (σ : fhM) {o : Int32 × fhM} (h : f_X4_depth σ = some o) : fhC fhYF E d miX4_depth [.ref 56] σ (some (.int o.1)) o.2 := by
  refine fhC.of (y := yX4_depth) (cc := cX4_depth) (nL := 4) (ret := (some .int)) 4 rfl (by decide +kernel) (Nat.le_of_ble_eq_true rfl) ?_
  intro Γ hΓ hR hD hEn
  subst hD; subst hEn
  exact L_X4_depth_E hE hΓ hd   σ _ h hR
set_option maxRecDepth 100000 in
set_option maxHeartbeats 4000000 in
theorem L_X11_deep_E {Γ : fhX} (hE : fhEok fhYF (fhEn Γ)) (hΓ : fhOk fhYF 11 cX11_deep 1 (some .int) Γ) (hd : 4 ≤ fhD Γ)   (σ : fhM) (o : Int32 × fhM) (h : f_X11_deep σ = some o) (hk : (fun o => fhRet Γ (some (.int o.1)) o.2) o) : fhW fhYF Γ 0 [(0, .ref 0)] [] σ := by
  unfold f_X11_deep at h
  refine fhW.blk fhPF fhLL hΓ [(.aload_n 0, 0), (.getfield 131, 0)] (pc' := 4) (lv' := [(0, .ref 0)]) (st' := [.int (σ.1 0 8)]) (σ' := σ) (by decide +kernel) rfl rfl rfl ?_
  refine fhW.z_eq hΓ (tgt := 17) (show fhbk _ _ (.ifCond .eq (13)) _ = true by decide +kernel) (fun hc => ?_) (fun hc => ?_)
  · rw [if_pos hc] at h
    refine fhW.blk fhPF fhLL hΓ [(.iconst (-1), -1)] (pc' := 18) (lv' := [(0, .ref 0)]) (st' := [.int (-1 : Int32)]) (σ' := σ) (by decide +kernel) rfl rfl rfl ?_
    have e9 := Option.some.inj h
    subst e9
    exact fhW.iret hΓ (by decide +kernel) hk
  · rw [if_neg hc] at h
    refine fhW.blk fhPF fhLL hΓ [(.aload_n 0, 0), (.getfield 72, 0)] (pc' := 11) (lv' := [(0, .ref 0)]) (st' := [.ref 56]) (σ' := σ) (by decide +kernel) rfl rfl rfl ?_
    obtain ⟨q1, hb1, h⟩ := Option.bind_eq_some_iff.mp h
    refine fhW.callv hΓ mvX4_depth ml_11_261 (t := 56) (ci := 4) (av := []) (rest := []) (r := (some (.int q1.1))) (σ' := q1.2) (T_X4_depth (E := fhEn Γ) (d := fhD Γ - 1) hE (by omega) σ hb1) (by omega) (by decide +kernel) rfl rfl rfl (Nat.le_of_ble_eq_true rfl) rfl ?_
    show fhW fhYF Γ 14 [(0, .ref 0)] [.int q1.1] q1.2
    refine fhW.goto hΓ (off := 4) (tgt := 18) (by decide +kernel) ?_
    have e9 := Option.some.inj h
    subst e9
    exact fhW.iret hΓ (by decide +kernel) hk
set_option maxRecDepth 100000 in
theorem T_X11_deep {E : fhE} {d : Nat} (hE : fhEok fhYF E) (hd : 4 ≤ d)   (σ : fhM) {o : Int32 × fhM} (h : f_X11_deep σ = some o) : fhC fhYF E d miX11_deep [.ref 0] σ (some (.int o.1)) o.2 := by
  refine fhC.of (y := yX11_deep) (cc := cX11_deep) (nL := 1) (ret := (some .int)) 11 rfl (by decide +kernel) (Nat.le_of_ble_eq_true rfl) ?_
  intro Γ hΓ hR hD hEn
  subst hD; subst hEn
  exact L_X11_deep_E hE hΓ hd   σ _ h hR
set_option maxRecDepth 100000 in
set_option maxHeartbeats 4000000 in
theorem L_X0_start_42 {Γ : fhX} (hE : fhEok fhYF (fhEn Γ)) (hΓ : fhOk fhYF 0 cX0_start 3 none Γ) (hd : 1 ≤ fhD Γ) (v2 : Int32)  (σ : fhM) (o : (Int32 × fhM) ⊕ (fhM)) (h : f_X0_start_42 v2 σ = some o) (hk : (fhK (fun x => fhW fhYF Γ 42 [(0, .ref 57), (2, .int x.1)] [] x.2) (fun o => fhRet Γ none o)) o) : fhW fhYF Γ 42 [(0, .ref 57), (2, .int v2)] [] σ := by
  unfold f_X0_start_42 at h
  refine fhW.blk fhPF fhLL hΓ [(.iload_n 2, 0), (.iconst 5, 5)] (pc' := 44) (lv' := [(0, .ref 57), (2, .int v2)]) (st' := [.int (5 : Int32), .int v2]) (σ' := σ) (by decide +kernel) rfl rfl rfl ?_
  refine fhW.i_ge hΓ (tgt := 63) (show fhbk _ _ (.if_icmp .ge (19)) _ = true by decide +kernel) (fun hc => ?_) (fun hc => ?_)
  · rw [if_pos hc] at h
    refine fhW.blk fhPF fhLL hΓ [(.aload_n 0, 0), (.bipush 99, 99), (.putfield 34, 0)] (pc' := 69) (lv' := [(0, .ref 57), (2, .int v2)]) (st' := []) (σ' := (fhI σ 57 5 (99 : Int32))) (by decide +kernel) rfl rfl rfl ?_
    have e9 := Option.some.inj h
    subst e9
    exact fhW.vret hΓ (by decide +kernel) hk
  · rw [if_neg hc] at h
    refine fhW.blk fhPF fhLL hΓ [(.aload_n 0, 0), (.getfield 23, 0), (.iload_n 2, 0), (.bipush 99, 99)] (pc' := 54) (lv' := [(0, .ref 57), (2, .int v2)]) (st' := [.int (99 : Int32), .int v2, .ref 62]) (σ' := σ) (by decide +kernel) rfl rfl rfl ?_
    refine fhW.callv hΓ mvX2_put ml_0_69 (t := 62) (ci := 2) (av := [.int v2, .int (99 : Int32)]) (rest := []) (r := none) (σ' := (fcP σ 62 v2 (99 : Int32))) (T_X2_put (E := fhEn Γ) (d := fhD Γ - 1) hE (by omega) 62 v2 (99 : Int32) rfl σ) (by omega) (by decide +kernel) rfl rfl rfl (Nat.le_of_ble_eq_true rfl) rfl ?_
    show fhW fhYF Γ 57 [(0, .ref 57), (2, .int v2)] [] (fcP σ 62 v2 (99 : Int32))
    refine fhW.blk fhPF fhLL hΓ [(.iinc 2 1, 1)] (pc' := 60) (lv' := [(2, .int (v2 + (1 : Int32))), (0, .ref 57)]) (st' := []) (σ' := (fcP σ 62 v2 (99 : Int32))) (by decide +kernel) rfl rfl rfl ?_
    refine fhW.goto hΓ (off := (-18)) (tgt := 42) (by decide +kernel) ?_
    refine fhW.sub (lv' := [(0, .ref 57), (2, .int (v2 + (1 : Int32)))]) [1, 0] rfl ?_
    have e9 := Option.some.inj h
    subst e9
    exact hk
set_option maxRecDepth 100000 in
set_option maxHeartbeats 4000000 in
theorem L_X0_start_10 {Γ : fhX} (hE : fhEok fhYF (fhEn Γ)) (hΓ : fhOk fhYF 0 cX0_start 3 none Γ) (hd : 1 ≤ fhD Γ) (v2 : Int32)  (σ : fhM) (o : (Int32 × fhM) ⊕ (fhM)) (h : f_X0_start_10 v2 σ = some o) (hk : (fhK (fun x => fhW fhYF Γ 10 [(0, .ref 57), (1, .ref 56), (2, .int x.1)] [] x.2) (fun o => fhRet Γ none o)) o) : fhW fhYF Γ 10 [(0, .ref 57), (1, .ref 56), (2, .int v2)] [] σ := by
  unfold f_X0_start_10 at h
  refine fhW.blk fhPF fhLL hΓ [(.iload_n 2, 0), (.aload_n 0, 0), (.getfield 44, 0)] (pc' := 15) (lv' := [(0, .ref 57), (1, .ref 56), (2, .int v2)]) (st' := [.int (σ.1 57 2), .int v2]) (σ' := σ) (by decide +kernel) rfl rfl rfl ?_
  refine fhW.i_ge hΓ (tgt := 40) (show fhbk _ _ (.if_icmp .ge (25)) _ = true by decide +kernel) (fun hc => ?_) (fun hc => ?_)
  · rw [if_pos hc] at h
    refine fhW.blk fhPF fhLL hΓ [(.iconst 0, 0), (.istore_n 2, 0)] (pc' := 42) (lv' := [(2, .int (0 : Int32)), (0, .ref 57), (1, .ref 56)]) (st' := []) (σ' := σ) (by decide +kernel) rfl rfl rfl ?_
    refine fhW.sub (lv' := [(0, .ref 57), (2, .int (0 : Int32))]) [1, 0] rfl ?_
    obtain ⟨z1, hz, e1⟩ := Option.map_eq_some_iff.mp h
    clear h
    subst e1
    have h := hz
    have hk : (fun o => fhRet Γ none o) z1 := hk
    exact fhlp_ok (W := (fun x => fhW fhYF Γ 42 [(0, .ref 57), (2, .int x.1)] [] x.2)) (B := (fun o => fhRet Γ none o)) (fun x o h hk => L_X0_start_42 hE hΓ hd x.1 x.2 o h hk) ((0 : Int32), σ) _ h hk
  · rw [if_neg hc] at h
    refine fhW.blk fhPF fhLL hΓ [(.aload_n 0, 0), (.getfield 14, 0), (.iload_n 2, 0), (.aload_n 1, 0), (.getfield 80, 0), (.iload_n 2, 0)] (pc' := 28) (lv' := [(0, .ref 57), (1, .ref 56), (2, .int v2)]) (st' := [.int v2, .ref 72, .int v2, .ref 58]) (σ' := σ) (by decide +kernel) rfl rfl rfl ?_
    refine fhW.callv hΓ mvX2_get ml_0_56 (t := 72) (ci := 2) (av := [.int v2]) (rest := [.int v2, .ref 58]) (r := (some (.int (fcG σ 72 v2)))) (σ' := σ) (T_X2_get (E := fhEn Γ) (d := fhD Γ - 1) hE (by omega) 72 v2 rfl σ) (by omega) (by decide +kernel) rfl rfl rfl (Nat.le_of_ble_eq_true rfl) rfl ?_
    show fhW fhYF Γ 31 [(0, .ref 57), (1, .ref 56), (2, .int v2)] [.int (fcG σ 72 v2), .int v2, .ref 58] σ
    refine fhW.callv hΓ mvX2_put ml_0_69 (t := 58) (ci := 2) (av := [.int v2, .int (fcG σ 72 v2)]) (rest := []) (r := none) (σ' := (fcP σ 58 v2 (fcG σ 72 v2))) (T_X2_put (E := fhEn Γ) (d := fhD Γ - 1) hE (by omega) 58 v2 (fcG σ 72 v2) rfl σ) (by omega) (by decide +kernel) rfl rfl rfl (Nat.le_of_ble_eq_true rfl) rfl ?_
    show fhW fhYF Γ 34 [(0, .ref 57), (1, .ref 56), (2, .int v2)] [] (fcP σ 58 v2 (fcG σ 72 v2))
    refine fhW.blk fhPF fhLL hΓ [(.iinc 2 1, 1)] (pc' := 37) (lv' := [(2, .int (v2 + (1 : Int32))), (0, .ref 57), (1, .ref 56)]) (st' := []) (σ' := (fcP σ 58 v2 (fcG σ 72 v2))) (by decide +kernel) rfl rfl rfl ?_
    refine fhW.goto hΓ (off := (-27)) (tgt := 10) (by decide +kernel) ?_
    refine fhW.sub (lv' := [(0, .ref 57), (1, .ref 56), (2, .int (v2 + (1 : Int32)))]) [1, 2, 0] rfl ?_
    have e9 := Option.some.inj h
    subst e9
    exact hk
set_option maxRecDepth 100000 in
set_option maxHeartbeats 4000000 in
theorem L_X0_start_E {Γ : fhX} (hE : fhEok fhYF (fhEn Γ)) (hΓ : fhOk fhYF 0 cX0_start 3 none Γ) (hd : 1 ≤ fhD Γ)   (σ : fhM) (o : fhM) (h : f_X0_start σ = some o) (hk : (fun o => fhRet Γ none o) o) : fhW fhYF Γ 0 [(0, .ref 57), (1, .ref 56)] [] σ := by
  unfold f_X0_start at h
  refine fhW.blk fhPF fhLL hΓ [(.aload_n 0, 0), (.aload_n 1, 0), (.getfield 77, 0), (.putfield 44, 0), (.iconst 0, 0), (.istore_n 2, 0)] (pc' := 10) (lv' := [(2, .int (0 : Int32)), (0, .ref 57), (1, .ref 56)]) (st' := []) (σ' := (fhI σ 57 2 (σ.1 56 8))) (by decide +kernel) rfl rfl rfl ?_
  refine fhW.sub (lv' := [(0, .ref 57), (1, .ref 56), (2, .int (0 : Int32))]) [1, 2, 0] rfl ?_
  exact fhlp_ok (W := (fun x => fhW fhYF Γ 10 [(0, .ref 57), (1, .ref 56), (2, .int x.1)] [] x.2)) (B := (fun o => fhRet Γ none o)) (fun x o h hk => L_X0_start_10 hE hΓ hd x.1 x.2 o h hk) ((0 : Int32), (fhI σ 57 2 (σ.1 56 8))) _ h hk
set_option maxRecDepth 100000 in
theorem T_X0_start {E : fhE} {d : Nat} (hE : fhEok fhYF E) (hd : 1 ≤ d)   (σ : fhM) {o : fhM} (h : f_X0_start σ = some o) : fhC fhYF E d miX0_start [.ref 57, .ref 56] σ none o := by
  refine fhC.of (y := yX0_start) (cc := cX0_start) (nL := 3) (ret := none) 0 rfl (by decide +kernel) (Nat.le_of_ble_eq_true rfl) ?_
  intro Γ hΓ hR hD hEn
  subst hD; subst hEn
  exact L_X0_start_E hE hΓ hd   σ _ h hR
set_option maxRecDepth 100000 in
set_option maxHeartbeats 4000000 in
theorem L_X0_shrinkTo_67 {Γ : fhX} (hE : fhEok fhYF (fhEn Γ)) (hΓ : fhOk fhYF 0 cX0_shrinkTo 5 (some .boolean) Γ) (hd : 1 ≤ fhD Γ) (v2 : Int32) (s0 : Bool)  (σ : fhM) (o : Bool × fhM) (h : f_X0_shrinkTo_67 v2 s0 σ = some o) (hk : (fun o => fhRet Γ (some (.int (fhb o.1))) o.2) o) : fhW fhYF Γ 67 [(0, .ref 57), (2, .int v2)] [.int (fhb s0)] σ := by
  unfold f_X0_shrinkTo_67 at h
  refine fhW.blk fhPF fhLL hΓ [(.istore_n 3, 0), (.aload_n 0, 0), (.iload_n 2, 0), (.putfield 44, 0), (.iload_n 3, 0)] (pc' := 74) (lv' := [(3, .int (fhb s0)), (0, .ref 57), (2, .int v2)]) (st' := [.int (fhb s0)]) (σ' := (fhI σ 57 2 v2)) (by decide +kernel) rfl rfl rfl ?_
  have e9 := Option.some.inj h
  subst e9
  exact fhW.zret (v := s0) hΓ (by decide +kernel) hk
set_option maxRecDepth 100000 in
set_option maxHeartbeats 4000000 in
theorem L_X0_shrinkTo_48 {Γ : fhX} (hE : fhEok fhYF (fhEn Γ)) (hΓ : fhOk fhYF 0 cX0_shrinkTo 5 (some .boolean) Γ) (hd : 1 ≤ fhD Γ) (v1 : Int32) (v2 : Int32) (v3 : Int32)  (σ : fhM) (o : (Int32 × Int32 × fhM) ⊕ (Bool × fhM)) (h : f_X0_shrinkTo_48 v1 v2 v3 σ = some o) (hk : (fhK (fun x => fhW fhYF Γ 4 [(0, .ref 57), (1, .int v1), (2, .int x.1), (3, .int x.2.1)] [] x.2.2) (fun o => fhRet Γ (some (.int (fhb o.1))) o.2)) o) : fhW fhYF Γ 48 [(0, .ref 57), (1, .int v1), (2, .int v2), (3, .int v3)] [] σ := by
  unfold f_X0_shrinkTo_48 at h
  refine fhW.blk fhPF fhLL hΓ [(.iinc 3 1, 1)] (pc' := 51) (lv' := [(3, .int (v3 + (1 : Int32))), (0, .ref 57), (1, .int v1), (2, .int v2)]) (st' := []) (σ' := σ) (by decide +kernel) rfl rfl rfl ?_
  refine fhW.goto hΓ (off := (-47)) (tgt := 4) (by decide +kernel) ?_
  refine fhW.sub (lv' := [(0, .ref 57), (1, .int v1), (2, .int v2), (3, .int (v3 + (1 : Int32)))]) [1, 2, 3, 0] rfl ?_
  have e9 := Option.some.inj h
  subst e9
  exact hk
set_option maxRecDepth 100000 in
set_option maxHeartbeats 4000000 in
theorem L_X0_shrinkTo_4 {Γ : fhX} (hE : fhEok fhYF (fhEn Γ)) (hΓ : fhOk fhYF 0 cX0_shrinkTo 5 (some .boolean) Γ) (hd : 1 ≤ fhD Γ) (v1 : Int32) (v2 : Int32) (v3 : Int32)  (σ : fhM) (o : (Int32 × Int32 × fhM) ⊕ (Bool × fhM)) (h : f_X0_shrinkTo_4 v1 v2 v3 σ = some o) (hk : (fhK (fun x => fhW fhYF Γ 4 [(0, .ref 57), (1, .int v1), (2, .int x.1), (3, .int x.2.1)] [] x.2.2) (fun o => fhRet Γ (some (.int (fhb o.1))) o.2)) o) : fhW fhYF Γ 4 [(0, .ref 57), (1, .int v1), (2, .int v2), (3, .int v3)] [] σ := by
  unfold f_X0_shrinkTo_4 at h
  refine fhW.blk fhPF fhLL hΓ [(.iload_n 3, 0), (.aload_n 0, 0), (.getfield 44, 0)] (pc' := 9) (lv' := [(0, .ref 57), (1, .int v1), (2, .int v2), (3, .int v3)]) (st' := [.int (σ.1 57 2), .int v3]) (σ' := σ) (by decide +kernel) rfl rfl rfl ?_
  refine fhW.i_ge hΓ (tgt := 54) (show fhbk _ _ (.if_icmp .ge (45)) _ = true by decide +kernel) (fun hc => ?_) (fun hc => ?_)
  · rw [if_pos hc] at h
    refine fhW.blk fhPF fhLL hΓ [(.iload_n 2, 0), (.aload_n 0, 0), (.getfield 44, 0)] (pc' := 59) (lv' := [(0, .ref 57), (1, .int v1), (2, .int v2), (3, .int v3)]) (st' := [.int (σ.1 57 2), .int v2]) (σ' := σ) (by decide +kernel) rfl rfl rfl ?_
    refine fhW.i_ge hΓ (tgt := 66) (show fhbk _ _ (.if_icmp .ge (7)) _ = true by decide +kernel) (fun hc => ?_) (fun hc => ?_)
    · simp only [if_pos hc] at h
      refine fhW.blk fhPF fhLL hΓ [(.iconst 0, 0)] (pc' := 67) (lv' := [(0, .ref 57), (1, .int v1), (2, .int v2), (3, .int v3)]) (st' := [.int (0 : Int32)]) (σ' := σ) (by decide +kernel) rfl rfl rfl ?_
      refine fhW.sub (lv' := [(0, .ref 57), (2, .int v2)]) [0, 2] rfl ?_
      obtain ⟨z1, hz, e1⟩ := Option.map_eq_some_iff.mp h
      clear h
      subst e1
      have h := hz
      have hk : (fun o => fhRet Γ (some (.int (fhb o.1))) o.2) z1 := hk
      exact L_X0_shrinkTo_67 hE hΓ hd v2 false σ _ h hk
    · simp only [if_neg hc] at h
      refine fhW.blk fhPF fhLL hΓ [(.iconst 1, 1)] (pc' := 63) (lv' := [(0, .ref 57), (1, .int v1), (2, .int v2), (3, .int v3)]) (st' := [.int (1 : Int32)]) (σ' := σ) (by decide +kernel) rfl rfl rfl ?_
      refine fhW.goto hΓ (off := 4) (tgt := 67) (by decide +kernel) ?_
      refine fhW.sub (lv' := [(0, .ref 57), (2, .int v2)]) [0, 2] rfl ?_
      obtain ⟨z2, hz, e2⟩ := Option.map_eq_some_iff.mp h
      clear h
      subst e2
      have h := hz
      have hk : (fun o => fhRet Γ (some (.int (fhb o.1))) o.2) z2 := hk
      exact L_X0_shrinkTo_67 hE hΓ hd v2 true σ _ h hk
  · rw [if_neg hc] at h
    refine fhW.blk fhPF fhLL hΓ [(.aload_n 0, 0), (.getfield 14, 0), (.iload_n 3, 0)] (pc' := 17) (lv' := [(0, .ref 57), (1, .int v1), (2, .int v2), (3, .int v3)]) (st' := [.int v3, .ref 58]) (σ' := σ) (by decide +kernel) rfl rfl rfl ?_
    refine fhW.callv hΓ mvX2_get ml_0_56 (t := 58) (ci := 2) (av := [.int v3]) (rest := []) (r := (some (.int (fcG σ 58 v3)))) (σ' := σ) (T_X2_get (E := fhEn Γ) (d := fhD Γ - 1) hE (by omega) 58 v3 rfl σ) (by omega) (by decide +kernel) rfl rfl rfl (Nat.le_of_ble_eq_true rfl) rfl ?_
    show fhW fhYF Γ 20 [(0, .ref 57), (1, .int v1), (2, .int v2), (3, .int v3)] [.int (fcG σ 58 v3)] σ
    refine fhW.blk fhPF fhLL hΓ [(.istore 4, 0), (.aload_n 0, 0), (.getfield 20, 0), (.iload 4, 0)] (pc' := 28) (lv' := [(4, .int (fcG σ 58 v3)), (0, .ref 57), (1, .int v1), (2, .int v2), (3, .int v3)]) (st' := [.int (fcG σ 58 v3), .ref 60]) (σ' := σ) (by decide +kernel) rfl rfl rfl ?_
    refine fhW.callv hΓ mvX2_get ml_0_56 (t := 60) (ci := 2) (av := [.int (fcG σ 58 v3)]) (rest := []) (r := (some (.int (fcG σ 60 (fcG σ 58 v3))))) (σ' := σ) (T_X2_get (E := fhEn Γ) (d := fhD Γ - 1) hE (by omega) 60 (fcG σ 58 v3) rfl σ) (by omega) (by decide +kernel) rfl rfl rfl (Nat.le_of_ble_eq_true rfl) rfl ?_
    show fhW fhYF Γ 31 [(4, .int (fcG σ 58 v3)), (0, .ref 57), (1, .int v1), (2, .int v2), (3, .int v3)] [.int (fcG σ 60 (fcG σ 58 v3))] σ
    refine fhW.blk fhPF fhLL hΓ [(.iload_n 1, 0)] (pc' := 32) (lv' := [(4, .int (fcG σ 58 v3)), (0, .ref 57), (1, .int v1), (2, .int v2), (3, .int v3)]) (st' := [.int v1, .int (fcG σ 60 (fcG σ 58 v3))]) (σ' := σ) (by decide +kernel) rfl rfl rfl ?_
    refine fhW.i_ne hΓ (tgt := 48) (show fhbk _ _ (.if_icmp .ne (16)) _ = true by decide +kernel) (fun hc => ?_) (fun hc => ?_)
    · rw [if_neg hc] at h
      refine fhW.sub (lv' := [(0, .ref 57), (1, .int v1), (2, .int v2), (3, .int v3)]) [1, 2, 3, 4] rfl ?_
      exact L_X0_shrinkTo_48 hE hΓ hd v1 v2 v3 σ _ h hk
    · rw [if_pos hc] at h
      refine fhW.blk fhPF fhLL hΓ [(.aload_n 0, 0), (.getfield 14, 0), (.iload_n 2, 0), (.iload 4, 0)] (pc' := 42) (lv' := [(4, .int (fcG σ 58 v3)), (0, .ref 57), (1, .int v1), (2, .int v2), (3, .int v3)]) (st' := [.int (fcG σ 58 v3), .int v2, .ref 58]) (σ' := σ) (by decide +kernel) rfl rfl rfl ?_
      refine fhW.callv hΓ mvX2_put ml_0_69 (t := 58) (ci := 2) (av := [.int v2, .int (fcG σ 58 v3)]) (rest := []) (r := none) (σ' := (fcP σ 58 v2 (fcG σ 58 v3))) (T_X2_put (E := fhEn Γ) (d := fhD Γ - 1) hE (by omega) 58 v2 (fcG σ 58 v3) rfl σ) (by omega) (by decide +kernel) rfl rfl rfl (Nat.le_of_ble_eq_true rfl) rfl ?_
      show fhW fhYF Γ 45 [(4, .int (fcG σ 58 v3)), (0, .ref 57), (1, .int v1), (2, .int v2), (3, .int v3)] [] (fcP σ 58 v2 (fcG σ 58 v3))
      refine fhW.blk fhPF fhLL hΓ [(.iinc 2 1, 1)] (pc' := 48) (lv' := [(2, .int (v2 + (1 : Int32))), (4, .int (fcG σ 58 v3)), (0, .ref 57), (1, .int v1), (3, .int v3)]) (st' := []) (σ' := (fcP σ 58 v2 (fcG σ 58 v3))) (by decide +kernel) rfl rfl rfl ?_
      refine fhW.sub (lv' := [(0, .ref 57), (1, .int v1), (2, .int (v2 + (1 : Int32))), (3, .int v3)]) [2, 3, 0, 4] rfl ?_
      exact L_X0_shrinkTo_48 hE hΓ hd v1 (v2 + (1 : Int32)) v3 (fcP σ 58 v2 (fcG σ 58 v3)) _ h hk
set_option maxRecDepth 100000 in
set_option maxHeartbeats 4000000 in
theorem L_X0_shrinkTo_E {Γ : fhX} (hE : fhEok fhYF (fhEn Γ)) (hΓ : fhOk fhYF 0 cX0_shrinkTo 5 (some .boolean) Γ) (hd : 1 ≤ fhD Γ) (v1 : Int32)  (σ : fhM) (o : Bool × fhM) (h : f_X0_shrinkTo v1 σ = some o) (hk : (fun o => fhRet Γ (some (.int (fhb o.1))) o.2) o) : fhW fhYF Γ 0 [(0, .ref 57), (1, .int v1)] [] σ := by
  unfold f_X0_shrinkTo at h
  refine fhW.blk fhPF fhLL hΓ [(.iconst 0, 0), (.istore_n 2, 0), (.iconst 0, 0), (.istore_n 3, 0)] (pc' := 4) (lv' := [(3, .int (0 : Int32)), (2, .int (0 : Int32)), (0, .ref 57), (1, .int v1)]) (st' := []) (σ' := σ) (by decide +kernel) rfl rfl rfl ?_
  refine fhW.sub (lv' := [(0, .ref 57), (1, .int v1), (2, .int (0 : Int32)), (3, .int (0 : Int32))]) [2, 3, 1, 0] rfl ?_
  exact fhlp_ok (W := (fun x => fhW fhYF Γ 4 [(0, .ref 57), (1, .int v1), (2, .int x.1), (3, .int x.2.1)] [] x.2.2)) (B := (fun o => fhRet Γ (some (.int (fhb o.1))) o.2)) (fun x o h hk => L_X0_shrinkTo_4 hE hΓ hd v1 x.1 x.2.1 x.2.2 o h hk) ((0 : Int32), (0 : Int32), σ) _ h hk
set_option maxRecDepth 100000 in
theorem T_X0_shrinkTo {E : fhE} {d : Nat} (hE : fhEok fhYF E) (hd : 1 ≤ d) (v1 : Int32)  (σ : fhM) {o : Bool × fhM} (h : f_X0_shrinkTo v1 σ = some o) : fhC fhYF E d miX0_shrinkTo [.ref 57, .int v1] σ (some (.int (fhb o.1))) o.2 := by
  refine fhC.of (y := yX0_shrinkTo) (cc := cX0_shrinkTo) (nL := 5) (ret := (some .boolean)) 0 rfl (by decide +kernel) (Nat.le_of_ble_eq_true rfl) ?_
  intro Γ hΓ hR hD hEn
  subst hD; subst hEn
  exact L_X0_shrinkTo_E hE hΓ hd v1  σ _ h hR
set_option maxRecDepth 100000 in
set_option maxHeartbeats 4000000 in
theorem L_X0_prepare_132 {Γ : fhX} (hE : fhEok fhYF (fhEn Γ)) (hΓ : fhOk fhYF 0 cX0_prepare 5 none Γ) (hd : 3 ≤ fhD Γ) (v2 : Int32)  (σ : fhM) (o : (Int32 × fhM) ⊕ (fhM)) (h : f_X0_prepare_132 v2 σ = some o) (hk : (fhK (fun x => fhW fhYF Γ 20 [(0, .ref 57), (1, .ref 56), (2, .int x.1)] [] x.2) (fun o => fhRet Γ none o)) o) : fhW fhYF Γ 132 [(0, .ref 57), (1, .ref 56), (2, .int v2)] [] σ := by
  unfold f_X0_prepare_132 at h
  refine fhW.blk fhPF fhLL hΓ [(.iinc 2 1, 1)] (pc' := 135) (lv' := [(2, .int (v2 + (1 : Int32))), (0, .ref 57), (1, .ref 56)]) (st' := []) (σ' := σ) (by decide +kernel) rfl rfl rfl ?_
  refine fhW.goto hΓ (off := (-115)) (tgt := 20) (by decide +kernel) ?_
  refine fhW.sub (lv' := [(0, .ref 57), (1, .ref 56), (2, .int (v2 + (1 : Int32)))]) [1, 2, 0] rfl ?_
  have e9 := Option.some.inj h
  subst e9
  exact hk
set_option maxRecDepth 100000 in
set_option maxHeartbeats 4000000 in
theorem L_X0_prepare_113 {Γ : fhX} (hE : fhEok fhYF (fhEn Γ)) (hΓ : fhOk fhYF 0 cX0_prepare 5 none Γ) (hd : 3 ≤ fhD Γ) (v2 : Int32) (v3 : Int32) (v4 : Int32)  (σ : fhM) (o : (Int32 × fhM) ⊕ ((Int32 × fhM) ⊕ (fhM))) (h : f_X0_prepare_113 v2 v3 v4 σ = some o) (hk : (fhK (fun x => fhW fhYF Γ 70 [(0, .ref 57), (1, .ref 56), (2, .int v2), (3, .int v3), (4, .int x.1)] [] x.2) (fhK (fun x => fhW fhYF Γ 20 [(0, .ref 57), (1, .ref 56), (2, .int x.1)] [] x.2) (fun o => fhRet Γ none o))) o) : fhW fhYF Γ 113 [(0, .ref 57), (1, .ref 56), (2, .int v2), (3, .int v3), (4, .int v4)] [] σ := by
  unfold f_X0_prepare_113 at h
  refine fhW.blk fhPF fhLL hΓ [(.iinc 4 1, 1)] (pc' := 116) (lv' := [(4, .int (v4 + (1 : Int32))), (0, .ref 57), (1, .ref 56), (2, .int v2), (3, .int v3)]) (st' := []) (σ' := σ) (by decide +kernel) rfl rfl rfl ?_
  refine fhW.goto hΓ (off := (-46)) (tgt := 70) (by decide +kernel) ?_
  refine fhW.sub (lv' := [(0, .ref 57), (1, .ref 56), (2, .int v2), (3, .int v3), (4, .int (v4 + (1 : Int32)))]) [1, 2, 3, 4, 0] rfl ?_
  have e9 := Option.some.inj h
  subst e9
  exact hk
set_option maxRecDepth 100000 in
set_option maxHeartbeats 4000000 in
theorem L_X0_prepare_70 {Γ : fhX} (hE : fhEok fhYF (fhEn Γ)) (hΓ : fhOk fhYF 0 cX0_prepare 5 none Γ) (hd : 3 ≤ fhD Γ) (v2 : Int32) (v3 : Int32) (v4 : Int32)  (σ : fhM) (o : (Int32 × fhM) ⊕ ((Int32 × fhM) ⊕ (fhM))) (h : f_X0_prepare_70 v2 v3 v4 σ = some o) (hk : (fhK (fun x => fhW fhYF Γ 70 [(0, .ref 57), (1, .ref 56), (2, .int v2), (3, .int v3), (4, .int x.1)] [] x.2) (fhK (fun x => fhW fhYF Γ 20 [(0, .ref 57), (1, .ref 56), (2, .int x.1)] [] x.2) (fun o => fhRet Γ none o))) o) : fhW fhYF Γ 70 [(0, .ref 57), (1, .ref 56), (2, .int v2), (3, .int v3), (4, .int v4)] [] σ := by
  unfold f_X0_prepare_70 at h
  refine fhW.blk fhPF fhLL hΓ [(.iload 4, 0), (.aload_n 1, 0), (.getfield 38, 0), (.getfield 60, 0)] (pc' := 79) (lv' := [(0, .ref 57), (1, .ref 56), (2, .int v2), (3, .int v3), (4, .int v4)]) (st' := [.int (σ.1 39 9), .int v4]) (σ' := σ) (by decide +kernel) rfl rfl rfl ?_
  refine fhW.i_ge hΓ (tgt := 119) (show fhbk _ _ (.if_icmp .ge (40)) _ = true by decide +kernel) (fun hc => ?_) (fun hc => ?_)
  · rw [if_pos hc] at h
    refine fhW.blk fhPF fhLL hΓ [(.aload_n 0, 0), (.iload_n 3, 0)] (pc' := 121) (lv' := [(0, .ref 57), (1, .ref 56), (2, .int v2), (3, .int v3), (4, .int v4)]) (st' := [.int v3, .ref 57]) (σ' := σ) (by decide +kernel) rfl rfl rfl ?_
    obtain ⟨q3, hb1, h⟩ := Option.bind_eq_some_iff.mp h
    refine fhW.callv hΓ mvX0_shrinkTo ml_0_73 (t := 57) (ci := 0) (av := [.int v3]) (rest := []) (r := (some (.int (fhb q3.1)))) (σ' := q3.2) (T_X0_shrinkTo (E := fhEn Γ) (d := fhD Γ - 1) hE (by omega) v3 σ hb1) (by omega) (by decide +kernel) rfl rfl rfl (Nat.le_of_ble_eq_true rfl) rfl ?_
    show fhW fhYF Γ 124 [(0, .ref 57), (1, .ref 56), (2, .int v2), (3, .int v3), (4, .int v4)] [.int (fhb q3.1)] q3.2
    refine fhW.b_ne hΓ (tgt := 132) (show fhbk _ _ (.ifCond .ne (8)) _ = true by decide +kernel) (fun hc => ?_) (fun hc => ?_)
    · rw [if_pos hc] at h
      refine fhW.sub (lv' := [(0, .ref 57), (1, .ref 56), (2, .int v2)]) [0, 1, 2] rfl ?_
      obtain ⟨z1, hz, e1⟩ := Option.map_eq_some_iff.mp h
      clear h
      subst e1
      have h := hz
      have hk : (fhK (fun x => fhW fhYF Γ 20 [(0, .ref 57), (1, .ref 56), (2, .int x.1)] [] x.2) (fun o => fhRet Γ none o)) z1 := hk
      exact L_X0_prepare_132 hE hΓ hd v2 q3.2 _ h hk
    · rw [if_neg hc] at h
      refine fhW.blk fhPF fhLL hΓ [(.aload_n 0, 0), (.iload_n 2, 0), (.putfield 34, 0)] (pc' := 132) (lv' := [(0, .ref 57), (1, .ref 56), (2, .int v2), (3, .int v3), (4, .int v4)]) (st' := []) (σ' := (fhI q3.2 57 5 v2)) (by decide +kernel) rfl rfl rfl ?_
      refine fhW.sub (lv' := [(0, .ref 57), (1, .ref 56), (2, .int v2)]) [0, 1, 2] rfl ?_
      obtain ⟨z2, hz, e2⟩ := Option.map_eq_some_iff.mp h
      clear h
      subst e2
      have h := hz
      have hk : (fhK (fun x => fhW fhYF Γ 20 [(0, .ref 57), (1, .ref 56), (2, .int x.1)] [] x.2) (fun o => fhRet Γ none o)) z2 := hk
      exact L_X0_prepare_132 hE hΓ hd v2 (fhI q3.2 57 5 v2) _ h hk
  · rw [if_neg hc] at h
    refine fhW.blk fhPF fhLL hΓ [(.iload_n 3, 0), (.iload 4, 0), (.ishr, 0), (.iconst 1, 1), (.iand, 0)] (pc' := 88) (lv' := [(0, .ref 57), (1, .ref 56), (2, .int v2), (3, .int v3), (4, .int v4)]) (st' := [.int ((v3 >>> (v4 &&& 31)) &&& (1 : Int32))]) (σ' := σ) (by decide +kernel) rfl rfl rfl ?_
    refine fhW.z_eq hΓ (tgt := 113) (show fhbk _ _ (.ifCond .eq (25)) _ = true by decide +kernel) (fun hc => ?_) (fun hc => ?_)
    · rw [if_pos hc] at h
      refine fhW.sub (lv' := [(0, .ref 57), (1, .ref 56), (2, .int v2), (3, .int v3), (4, .int v4)]) [0, 1, 2, 3, 4] rfl ?_
      exact L_X0_prepare_113 hE hΓ hd v2 v3 v4 σ _ h hk
    · rw [if_neg hc] at h
      refine fhW.blk fhPF fhLL hΓ [(.aload_n 0, 0), (.getfield 23, 0), (.iload 4, 0), (.aload_n 0, 0), (.getfield 23, 0), (.iload 4, 0)] (pc' := 103) (lv' := [(0, .ref 57), (1, .ref 56), (2, .int v2), (3, .int v3), (4, .int v4)]) (st' := [.int v4, .ref 62, .int v4, .ref 62]) (σ' := σ) (by decide +kernel) rfl rfl rfl ?_
      refine fhW.callv hΓ mvX2_get ml_0_56 (t := 62) (ci := 2) (av := [.int v4]) (rest := [.int v4, .ref 62]) (r := (some (.int (fcG σ 62 v4)))) (σ' := σ) (T_X2_get (E := fhEn Γ) (d := fhD Γ - 1) hE (by omega) 62 v4 rfl σ) (by omega) (by decide +kernel) rfl rfl rfl (Nat.le_of_ble_eq_true rfl) rfl ?_
      show fhW fhYF Γ 106 [(0, .ref 57), (1, .ref 56), (2, .int v2), (3, .int v3), (4, .int v4)] [.int (fcG σ 62 v4), .int v4, .ref 62] σ
      refine fhW.blk fhPF fhLL hΓ [(.iload_n 2, 0)] (pc' := 107) (lv' := [(0, .ref 57), (1, .ref 56), (2, .int v2), (3, .int v3), (4, .int v4)]) (st' := [.int v2, .int (fcG σ 62 v4), .int v4, .ref 62]) (σ' := σ) (by decide +kernel) rfl rfl rfl ?_
      refine fhW.calls hΓ msJ9_min_7cf53 ml_0_63 (av := [.int (fcG σ 62 v4), .int v2]) (rest := [.int v4, .ref 62]) (r := (some (.int (f_J9_min_7cf53 (fcG σ 62 v4) v2 σ)))) (σ' := σ) (T_J9_min_7cf53 (E := fhEn Γ) (d := fhD Γ - 1) hE (by omega) (fcG σ 62 v4) v2 σ) (by omega) (by decide +kernel) rfl (Nat.le_of_ble_eq_true rfl) rfl ?_
      show fhW fhYF Γ 110 [(0, .ref 57), (1, .ref 56), (2, .int v2), (3, .int v3), (4, .int v4)] [.int (f_J9_min_7cf53 (fcG σ 62 v4) v2 σ), .int v4, .ref 62] σ
      refine fhW.callv hΓ mvX2_put ml_0_69 (t := 62) (ci := 2) (av := [.int v4, .int (f_J9_min_7cf53 (fcG σ 62 v4) v2 σ)]) (rest := []) (r := none) (σ' := (fcP σ 62 v4 (f_J9_min_7cf53 (fcG σ 62 v4) v2 σ))) (T_X2_put (E := fhEn Γ) (d := fhD Γ - 1) hE (by omega) 62 v4 (f_J9_min_7cf53 (fcG σ 62 v4) v2 σ) rfl σ) (by omega) (by decide +kernel) rfl rfl rfl (Nat.le_of_ble_eq_true rfl) rfl ?_
      show fhW fhYF Γ 113 [(0, .ref 57), (1, .ref 56), (2, .int v2), (3, .int v3), (4, .int v4)] [] (fcP σ 62 v4 (f_J9_min_7cf53 (fcG σ 62 v4) v2 σ))
      refine fhW.sub (lv' := [(0, .ref 57), (1, .ref 56), (2, .int v2), (3, .int v3), (4, .int v4)]) [0, 1, 2, 3, 4] rfl ?_
      exact L_X0_prepare_113 hE hΓ hd v2 v3 v4 (fcP σ 62 v4 (f_J9_min_7cf53 (fcG σ 62 v4) v2 σ)) _ h hk
set_option maxRecDepth 100000 in
set_option maxHeartbeats 4000000 in
theorem L_X0_prepare_20 {Γ : fhX} (hE : fhEok fhYF (fhEn Γ)) (hΓ : fhOk fhYF 0 cX0_prepare 5 none Γ) (hd : 3 ≤ fhD Γ) (v2 : Int32)  (σ : fhM) (o : (Int32 × fhM) ⊕ (fhM)) (h : f_X0_prepare_20 v2 σ = some o) (hk : (fhK (fun x => fhW fhYF Γ 20 [(0, .ref 57), (1, .ref 56), (2, .int x.1)] [] x.2) (fun o => fhRet Γ none o)) o) : fhW fhYF Γ 20 [(0, .ref 57), (1, .ref 56), (2, .int v2)] [] σ := by
  unfold f_X0_prepare_20 at h
  refine fhW.blk fhPF fhLL hΓ [(.iload_n 2, 0), (.bipush 20, 20)] (pc' := 23) (lv' := [(0, .ref 57), (1, .ref 56), (2, .int v2)]) (st' := [.int (20 : Int32), .int v2]) (σ' := σ) (by decide +kernel) rfl rfl rfl ?_
  refine fhW.i_gt hΓ (tgt := 138) (show fhbk _ _ (.if_icmp .gt (115)) _ = true by decide +kernel) (fun hc => ?_) (fun hc => ?_)
  · rw [if_pos hc] at h
    have e9 := Option.some.inj h
    subst e9
    exact fhW.vret hΓ (by decide +kernel) hk
  · rw [if_neg hc] at h
    refine fhW.blk fhPF fhLL hΓ [(.aload_n 0, 0), (.getfield 34, 0), (.bipush 99, 99)] (pc' := 32) (lv' := [(0, .ref 57), (1, .ref 56), (2, .int v2)]) (st' := [.int (99 : Int32), .int (σ.1 57 5)]) (σ' := σ) (by decide +kernel) rfl rfl rfl ?_
    refine fhW.i_ne hΓ (tgt := 138) (show fhbk _ _ (.if_icmp .ne (106)) _ = true by decide +kernel) (fun hc => ?_) (fun hc => ?_)
    · rw [if_neg hc] at h
      have e9 := Option.some.inj h
      subst e9
      exact fhW.vret hΓ (by decide +kernel) hk
    · rw [if_pos hc] at h
      refine fhW.blk fhPF fhLL hΓ [(.aload_n 1, 0), (.getfield 38, 0), (.aload_n 0, 0), (.getfield 14, 0), (.iconst 0, 0), (.aload_n 0, 0), (.getfield 44, 0), (.aload_n 0, 0), (.getfield 20, 0)] (pc' := 52) (lv' := [(0, .ref 57), (1, .ref 56), (2, .int v2)]) (st' := [.ref 60, .int (σ.1 57 2), .int (0 : Int32), .ref 58, .ref 39]) (σ' := σ) (by decide +kernel) rfl rfl rfl ?_
      obtain ⟨q2, hb2, h⟩ := Option.bind_eq_some_iff.mp h
      refine fhW.callv hΓ mvX9_findKnowers ml_0_47 (t := 39) (ci := 9) (av := [.ref 58, .int (0 : Int32), .int (σ.1 57 2), .ref 60]) (rest := []) (r := none) (σ' := q2) (T_X9_findKnowers (E := fhEn Γ) (d := fhD Γ - 1) hE (by omega) 58 (0 : Int32) (σ.1 57 2) 60 rfl rfl σ hb2) (by omega) (by decide +kernel) rfl rfl rfl (Nat.le_of_ble_eq_true rfl) rfl ?_
      show fhW fhYF Γ 55 [(0, .ref 57), (1, .ref 56), (2, .int v2)] [] q2
      refine fhW.blk fhPF fhLL hΓ [(.aload_n 0, 0), (.getfield 20, 0), (.aload_n 1, 0), (.getfield 53, 0)] (pc' := 63) (lv' := [(0, .ref 57), (1, .ref 56), (2, .int v2)]) (st' := [.int (q2.1 56 9), .ref 60]) (σ' := q2) (by decide +kernel) rfl rfl rfl ?_
      refine fhW.callv hΓ mvX2_get ml_0_56 (t := 60) (ci := 2) (av := [.int (q2.1 56 9)]) (rest := []) (r := (some (.int (fcG q2 60 (q2.1 56 9))))) (σ' := q2) (T_X2_get (E := fhEn Γ) (d := fhD Γ - 1) hE (by omega) 60 (q2.1 56 9) rfl q2) (by omega) (by decide +kernel) rfl rfl rfl (Nat.le_of_ble_eq_true rfl) rfl ?_
      show fhW fhYF Γ 66 [(0, .ref 57), (1, .ref 56), (2, .int v2)] [.int (fcG q2 60 (q2.1 56 9))] q2
      refine fhW.blk fhPF fhLL hΓ [(.istore_n 3, 0), (.iconst 0, 0), (.istore 4, 0)] (pc' := 70) (lv' := [(4, .int (0 : Int32)), (3, .int (fcG q2 60 (q2.1 56 9))), (0, .ref 57), (1, .ref 56), (2, .int v2)]) (st' := []) (σ' := q2) (by decide +kernel) rfl rfl rfl ?_
      refine fhW.sub (lv' := [(0, .ref 57), (1, .ref 56), (2, .int v2), (3, .int (fcG q2 60 (q2.1 56 9))), (4, .int (0 : Int32))]) [2, 3, 4, 1, 0] rfl ?_
      exact fhlp_ok (W := (fun x => fhW fhYF Γ 70 [(0, .ref 57), (1, .ref 56), (2, .int v2), (3, .int (fcG q2 60 (q2.1 56 9))), (4, .int x.1)] [] x.2)) (B := (fhK (fun x => fhW fhYF Γ 20 [(0, .ref 57), (1, .ref 56), (2, .int x.1)] [] x.2) (fun o => fhRet Γ none o))) (fun x o h hk => L_X0_prepare_70 hE hΓ hd v2 (fcG q2 60 (q2.1 56 9)) x.1 x.2 o h hk) ((0 : Int32), q2) _ h hk
set_option maxRecDepth 100000 in
set_option maxHeartbeats 4000000 in
theorem L_X0_prepare_E {Γ : fhX} (hE : fhEok fhYF (fhEn Γ)) (hΓ : fhOk fhYF 0 cX0_prepare 5 none Γ) (hd : 3 ≤ fhD Γ)   (σ : fhM) (o : fhM) (h : f_X0_prepare σ = some o) (hk : (fun o => fhRet Γ none o) o) : fhW fhYF Γ 0 [(0, .ref 57), (1, .ref 56)] [] σ := by
  unfold f_X0_prepare at h
  refine fhW.blk fhPF fhLL hΓ [(.aload_n 0, 0), (.getfield 26, 0)] (pc' := 4) (lv' := [(0, .ref 57), (1, .ref 56)]) (st' := [.int (σ.1 57 3)]) (σ' := σ) (by decide +kernel) rfl rfl rfl ?_
  refine fhW.z_eq hΓ (tgt := 8) (show fhbk _ _ (.ifCond .eq (4)) _ = true by decide +kernel) (fun hc => ?_) (fun hc => ?_)
  · rw [if_pos hc] at h
    refine fhW.blk fhPF fhLL hΓ [(.aload_n 0, 0), (.iconst 1, 1), (.putfield 26, 0), (.aload_n 0, 0), (.aload_n 1, 0)] (pc' := 15) (lv' := [(0, .ref 57), (1, .ref 56)]) (st' := [.ref 56, .ref 57]) (σ' := (fhI σ 57 3 (1 : Int32))) (by decide +kernel) rfl rfl rfl ?_
    obtain ⟨q1, hb3, h⟩ := Option.bind_eq_some_iff.mp h
    refine fhW.callv hΓ mvX0_start ml_0_30 (t := 57) (ci := 0) (av := [.ref 56]) (rest := []) (r := none) (σ' := q1) (T_X0_start (E := fhEn Γ) (d := fhD Γ - 1) hE (by omega) (fhI σ 57 3 (1 : Int32)) hb3) (by omega) (by decide +kernel) rfl rfl rfl (Nat.le_of_ble_eq_true rfl) rfl ?_
    show fhW fhYF Γ 18 [(0, .ref 57), (1, .ref 56)] [] q1
    refine fhW.blk fhPF fhLL hΓ [(.iconst 0, 0), (.istore_n 2, 0)] (pc' := 20) (lv' := [(2, .int (0 : Int32)), (0, .ref 57), (1, .ref 56)]) (st' := []) (σ' := q1) (by decide +kernel) rfl rfl rfl ?_
    refine fhW.sub (lv' := [(0, .ref 57), (1, .ref 56), (2, .int (0 : Int32))]) [1, 2, 0] rfl ?_
    exact fhlp_ok (W := (fun x => fhW fhYF Γ 20 [(0, .ref 57), (1, .ref 56), (2, .int x.1)] [] x.2)) (B := (fun o => fhRet Γ none o)) (fun x o h hk => L_X0_prepare_20 hE hΓ hd x.1 x.2 o h hk) ((0 : Int32), q1) _ h hk
  · rw [if_neg hc] at h
    have e9 := Option.some.inj h
    subst e9
    exact fhW.vret hΓ (by decide +kernel) hk
set_option maxRecDepth 100000 in
theorem T_X0_prepare {E : fhE} {d : Nat} (hE : fhEok fhYF E) (hd : 3 ≤ d)   (σ : fhM) {o : fhM} (h : f_X0_prepare σ = some o) : fhC fhYF E d miX0_prepare [.ref 57, .ref 56] σ none o := by
  refine fhC.of (y := yX0_prepare) (cc := cX0_prepare) (nL := 5) (ret := none) 0 rfl (by decide +kernel) (Nat.le_of_ble_eq_true rfl) ?_
  intro Γ hΓ hR hD hEn
  subst hD; subst hEn
  exact L_X0_prepare_E hE hΓ hd   σ _ h hR
set_option maxRecDepth 100000 in
set_option maxHeartbeats 4000000 in
theorem L_X4_lookAhead_E {Γ : fhX} (hE : fhEok fhYF (fhEn Γ)) (hΓ : fhOk fhYF 4 cX4_lookAhead 1 (some (.object "ForeheadMarks$Ahead")) Γ) (hd : 4 ≤ fhD Γ)   (σ : fhM) (o : fhM) (h : f_X4_lookAhead σ = some o) (hk : (fun o => fhRet Γ (some (.ref 57)) o) o) : fhW fhYF Γ 0 [(0, .ref 56)] [] σ := by
  unfold f_X4_lookAhead at h
  refine fhW.blk fhPF fhLL hΓ [(.aload_n 0, 0), (.getfield 12, 0), (.aload_n 0, 0)] (pc' := 5) (lv' := [(0, .ref 56)]) (st' := [.ref 56, .ref 57]) (σ' := σ) (by decide +kernel) rfl rfl rfl ?_
  obtain ⟨q1, hb1, h⟩ := Option.bind_eq_some_iff.mp h
  refine fhW.callv hΓ mvX0_prepare ml_4_106 (t := 57) (ci := 0) (av := [.ref 56]) (rest := []) (r := none) (σ' := q1) (T_X0_prepare (E := fhEn Γ) (d := fhD Γ - 1) hE (by omega) σ hb1) (by omega) (by decide +kernel) rfl rfl rfl (Nat.le_of_ble_eq_true rfl) rfl ?_
  show fhW fhYF Γ 8 [(0, .ref 56)] [] q1
  refine fhW.blk fhPF fhLL hΓ [(.aload_n 0, 0), (.getfield 12, 0)] (pc' := 12) (lv' := [(0, .ref 56)]) (st' := [.ref 57]) (σ' := q1) (by decide +kernel) rfl rfl rfl ?_
  have e9 := Option.some.inj h
  subst e9
  exact fhW.aret hΓ (by decide +kernel) hk
set_option maxRecDepth 100000 in
theorem T_X4_lookAhead {E : fhE} {d : Nat} (hE : fhEok fhYF E) (hd : 4 ≤ d)   (σ : fhM) {o : fhM} (h : f_X4_lookAhead σ = some o) : fhC fhYF E d miX4_lookAhead [.ref 56] σ (some (.ref 57)) o := by
  refine fhC.of (y := yX4_lookAhead) (cc := cX4_lookAhead) (nL := 1) (ret := (some (.object "ForeheadMarks$Ahead"))) 4 rfl (by decide +kernel) (Nat.le_of_ble_eq_true rfl) ?_
  intro Γ hΓ hR hD hEn
  subst hD; subst hEn
  exact L_X4_lookAhead_E hE hΓ hd   σ _ h hR
set_option maxRecDepth 100000 in
set_option maxHeartbeats 4000000 in
theorem L_X11_later_43 {Γ : fhX} (hE : fhEok fhYF (fhEn Γ)) (hΓ : fhOk fhYF 11 cX11_later 3 (some .int) Γ) (hd : 5 ≤ fhD Γ) (s0 : Int32)  (σ : fhM) (o : Int32 × fhM) (h : f_X11_later_43 s0 σ = some o) (hk : (fun o => fhRet Γ (some (.int o.1)) o.2) o) : fhW fhYF Γ 43 [] [.int s0] σ := by
  unfold f_X11_later_43 at h
  refine fhW.calls hΓ msX11_one ml_11_222 (av := [.int s0]) (rest := []) (r := (some (.int (f_X11_one s0 σ)))) (σ' := σ) (T_X11_one (E := fhEn Γ) (d := fhD Γ - 1) hE (by omega) s0 σ) (by omega) (by decide +kernel) rfl (Nat.le_of_ble_eq_true rfl) rfl ?_
  show fhW fhYF Γ 46 [] [.int (f_X11_one s0 σ)] σ
  have e9 := Option.some.inj h
  subst e9
  exact fhW.iret hΓ (by decide +kernel) hk
set_option maxRecDepth 100000 in
set_option maxHeartbeats 4000000 in
theorem L_X11_later_E {Γ : fhX} (hE : fhEok fhYF (fhEn Γ)) (hΓ : fhOk fhYF 11 cX11_later 3 (some .int) Γ) (hd : 5 ≤ fhD Γ) (v1 : Int32) (v2 : Int32)  (σ : fhM) (o : Int32 × fhM) (h : f_X11_later v1 v2 σ = some o) (hk : (fun o => fhRet Γ (some (.int o.1)) o.2) o) : fhW fhYF Γ 0 [(0, .ref 0), (1, .int v1), (2, .int v2)] [] σ := by
  unfold f_X11_later at h
  refine fhW.blk fhPF fhLL hΓ [(.aload_n 0, 0), (.iload_n 1, 0)] (pc' := 2) (lv' := [(0, .ref 0), (1, .int v1), (2, .int v2)]) (st' := [.int v1, .ref 0]) (σ' := σ) (by decide +kernel) rfl rfl rfl ?_
  refine fhW.callv hΓ mvX11_isGuest ml_11_201 (t := 0) (ci := 11) (av := [.int v1]) (rest := []) (r := (some (.int (fhb (f_X11_isGuest v1 σ))))) (σ' := σ) (T_X11_isGuest (E := fhEn Γ) (d := fhD Γ - 1) hE (by omega) v1 σ) (by omega) (by decide +kernel) rfl rfl rfl (Nat.le_of_ble_eq_true rfl) rfl ?_
  show fhW fhYF Γ 5 [(0, .ref 0), (1, .int v1), (2, .int v2)] [.int (fhb (f_X11_isGuest v1 σ))] σ
  refine fhW.b_eq hΓ (tgt := 18) (show fhbk _ _ (.ifCond .eq (13)) _ = true by decide +kernel) (fun hc => ?_) (fun hc => ?_)
  · rw [if_neg hc] at h
    refine fhW.blk fhPF fhLL hΓ [(.iconst (-1), -1)] (pc' := 19) (lv' := [(0, .ref 0), (1, .int v1), (2, .int v2)]) (st' := [.int (-1 : Int32)]) (σ' := σ) (by decide +kernel) rfl rfl rfl ?_
    have e9 := Option.some.inj h
    subst e9
    exact fhW.iret hΓ (by decide +kernel) hk
  · rw [if_pos hc] at h
    refine fhW.blk fhPF fhLL hΓ [(.iload_n 2, 0)] (pc' := 9) (lv' := [(0, .ref 0), (1, .int v1), (2, .int v2)]) (st' := [.int v2]) (σ' := σ) (by decide +kernel) rfl rfl rfl ?_
    refine fhW.z_lt hΓ (tgt := 18) (show fhbk _ _ (.ifCond .lt (9)) _ = true by decide +kernel) (fun hc => ?_) (fun hc => ?_)
    · rw [if_pos hc] at h
      refine fhW.blk fhPF fhLL hΓ [(.iconst (-1), -1)] (pc' := 19) (lv' := [(0, .ref 0), (1, .int v1), (2, .int v2)]) (st' := [.int (-1 : Int32)]) (σ' := σ) (by decide +kernel) rfl rfl rfl ?_
      have e9 := Option.some.inj h
      subst e9
      exact fhW.iret hΓ (by decide +kernel) hk
    · rw [if_neg hc] at h
      refine fhW.blk fhPF fhLL hΓ [(.iload_n 2, 0), (.bipush 20, 20)] (pc' := 15) (lv' := [(0, .ref 0), (1, .int v1), (2, .int v2)]) (st' := [.int (20 : Int32), .int v2]) (σ' := σ) (by decide +kernel) rfl rfl rfl ?_
      refine fhW.i_le hΓ (tgt := 20) (show fhbk _ _ (.if_icmp .le (5)) _ = true by decide +kernel) (fun hc => ?_) (fun hc => ?_)
      · rw [if_pos hc] at h
        refine fhW.blk fhPF fhLL hΓ [(.aload_n 0, 0), (.getfield 72, 0)] (pc' := 24) (lv' := [(0, .ref 0), (1, .int v1), (2, .int v2)]) (st' := [.ref 56]) (σ' := σ) (by decide +kernel) rfl rfl rfl ?_
        obtain ⟨q1, hb1, h⟩ := Option.bind_eq_some_iff.mp h
        refine fhW.callv hΓ mvX4_lookAhead ml_11_264 (t := 56) (ci := 4) (av := []) (rest := []) (r := (some (.ref 57))) (σ' := q1) (T_X4_lookAhead (E := fhEn Γ) (d := fhD Γ - 1) hE (by omega) σ hb1) (by omega) (by decide +kernel) rfl rfl rfl (Nat.le_of_ble_eq_true rfl) rfl ?_
        show fhW fhYF Γ 27 [(0, .ref 0), (1, .int v1), (2, .int v2)] [.ref 57] q1
        refine fhW.blk fhPF fhLL hΓ [(.getfield 268, 0), (.iload_n 1, 0)] (pc' := 31) (lv' := [(0, .ref 0), (1, .int v1), (2, .int v2)]) (st' := [.int v1, .ref 62]) (σ' := q1) (by decide +kernel) rfl rfl rfl ?_
        refine fhW.callv hΓ mvX2_get ml_11_117 (t := 62) (ci := 2) (av := [.int v1]) (rest := []) (r := (some (.int (fcG q1 62 v1)))) (σ' := q1) (T_X2_get (E := fhEn Γ) (d := fhD Γ - 1) hE (by omega) 62 v1 rfl q1) (by omega) (by decide +kernel) rfl rfl rfl (Nat.le_of_ble_eq_true rfl) rfl ?_
        show fhW fhYF Γ 34 [(0, .ref 0), (1, .int v1), (2, .int v2)] [.int (fcG q1 62 v1)] q1
        refine fhW.blk fhPF fhLL hΓ [(.iload_n 2, 0)] (pc' := 35) (lv' := [(0, .ref 0), (1, .int v1), (2, .int v2)]) (st' := [.int v2, .int (fcG q1 62 v1)]) (σ' := q1) (by decide +kernel) rfl rfl rfl ?_
        refine fhW.i_gt hΓ (tgt := 42) (show fhbk _ _ (.if_icmp .gt (7)) _ = true by decide +kernel) (fun hc => ?_) (fun hc => ?_)
        · simp only [if_pos hc] at h
          refine fhW.blk fhPF fhLL hΓ [(.iconst 0, 0)] (pc' := 43) (lv' := [(0, .ref 0), (1, .int v1), (2, .int v2)]) (st' := [.int (0 : Int32)]) (σ' := q1) (by decide +kernel) rfl rfl rfl ?_
          refine fhW.sub (lv' := []) [] rfl ?_
          exact L_X11_later_43 hE hΓ hd (0 : Int32) q1 _ h hk
        · simp only [if_neg hc] at h
          refine fhW.blk fhPF fhLL hΓ [(.iconst 1, 1)] (pc' := 39) (lv' := [(0, .ref 0), (1, .int v1), (2, .int v2)]) (st' := [.int (1 : Int32)]) (σ' := q1) (by decide +kernel) rfl rfl rfl ?_
          refine fhW.goto hΓ (off := 4) (tgt := 43) (by decide +kernel) ?_
          refine fhW.sub (lv' := []) [] rfl ?_
          exact L_X11_later_43 hE hΓ hd (1 : Int32) q1 _ h hk
      · rw [if_neg hc] at h
        refine fhW.blk fhPF fhLL hΓ [(.iconst (-1), -1)] (pc' := 19) (lv' := [(0, .ref 0), (1, .int v1), (2, .int v2)]) (st' := [.int (-1 : Int32)]) (σ' := σ) (by decide +kernel) rfl rfl rfl ?_
        have e9 := Option.some.inj h
        subst e9
        exact fhW.iret hΓ (by decide +kernel) hk
set_option maxRecDepth 100000 in
theorem T_X11_later {E : fhE} {d : Nat} (hE : fhEok fhYF E) (hd : 5 ≤ d) (v1 : Int32) (v2 : Int32)  (σ : fhM) {o : Int32 × fhM} (h : f_X11_later v1 v2 σ = some o) : fhC fhYF E d miX11_later [.ref 0, .int v1, .int v2] σ (some (.int o.1)) o.2 := by
  refine fhC.of (y := yX11_later) (cc := cX11_later) (nL := 3) (ret := (some .int)) 11 rfl (by decide +kernel) (Nat.le_of_ble_eq_true rfl) ?_
  intro Γ hΓ hR hD hEn
  subst hD; subst hEn
  exact L_X11_later_E hE hΓ hd v1 v2  σ _ h hR
set_option maxRecDepth 100000 in
set_option maxHeartbeats 4000000 in
theorem L_X11_learns_E {Γ : fhX} (hE : fhEok fhYF (fhEn Γ)) (hΓ : fhOk fhYF 11 cX11_learns 3 (some .int) Γ) (hd : 5 ≤ fhD Γ) (v1 : Int32)  (σ : fhM) (o : Int32 × fhM) (h : f_X11_learns v1 σ = some o) (hk : (fun o => fhRet Γ (some (.int o.1)) o.2) o) : fhW fhYF Γ 0 [(0, .ref 0), (1, .int v1)] [] σ := by
  unfold f_X11_learns at h
  refine fhW.blk fhPF fhLL hΓ [(.aload_n 0, 0), (.iload_n 1, 0)] (pc' := 2) (lv' := [(0, .ref 0), (1, .int v1)]) (st' := [.int v1, .ref 0]) (σ' := σ) (by decide +kernel) rfl rfl rfl ?_
  refine fhW.callv hΓ mvX11_isGuest ml_11_201 (t := 0) (ci := 11) (av := [.int v1]) (rest := []) (r := (some (.int (fhb (f_X11_isGuest v1 σ))))) (σ' := σ) (T_X11_isGuest (E := fhEn Γ) (d := fhD Γ - 1) hE (by omega) v1 σ) (by omega) (by decide +kernel) rfl rfl rfl (Nat.le_of_ble_eq_true rfl) rfl ?_
  show fhW fhYF Γ 5 [(0, .ref 0), (1, .int v1)] [.int (fhb (f_X11_isGuest v1 σ))] σ
  refine fhW.b_ne hΓ (tgt := 10) (show fhbk _ _ (.ifCond .ne (5)) _ = true by decide +kernel) (fun hc => ?_) (fun hc => ?_)
  · rw [if_pos hc] at h
    refine fhW.blk fhPF fhLL hΓ [(.aload_n 0, 0), (.getfield 72, 0)] (pc' := 14) (lv' := [(0, .ref 0), (1, .int v1)]) (st' := [.ref 56]) (σ' := σ) (by decide +kernel) rfl rfl rfl ?_
    obtain ⟨q1, hb1, h⟩ := Option.bind_eq_some_iff.mp h
    refine fhW.callv hΓ mvX4_lookAhead ml_11_264 (t := 56) (ci := 4) (av := []) (rest := []) (r := (some (.ref 57))) (σ' := q1) (T_X4_lookAhead (E := fhEn Γ) (d := fhD Γ - 1) hE (by omega) σ hb1) (by omega) (by decide +kernel) rfl rfl rfl (Nat.le_of_ble_eq_true rfl) rfl ?_
    show fhW fhYF Γ 17 [(0, .ref 0), (1, .int v1)] [.ref 57] q1
    refine fhW.blk fhPF fhLL hΓ [(.getfield 268, 0), (.iload_n 1, 0)] (pc' := 21) (lv' := [(0, .ref 0), (1, .int v1)]) (st' := [.int v1, .ref 62]) (σ' := q1) (by decide +kernel) rfl rfl rfl ?_
    refine fhW.callv hΓ mvX2_get ml_11_117 (t := 62) (ci := 2) (av := [.int v1]) (rest := []) (r := (some (.int (fcG q1 62 v1)))) (σ' := q1) (T_X2_get (E := fhEn Γ) (d := fhD Γ - 1) hE (by omega) 62 v1 rfl q1) (by omega) (by decide +kernel) rfl rfl rfl (Nat.le_of_ble_eq_true rfl) rfl ?_
    show fhW fhYF Γ 24 [(0, .ref 0), (1, .int v1)] [.int (fcG q1 62 v1)] q1
    refine fhW.blk fhPF fhLL hΓ [(.istore_n 2, 0), (.iload_n 2, 0), (.bipush 20, 20)] (pc' := 28) (lv' := [(2, .int (fcG q1 62 v1)), (0, .ref 0), (1, .int v1)]) (st' := [.int (20 : Int32), .int (fcG q1 62 v1)]) (σ' := q1) (by decide +kernel) rfl rfl rfl ?_
    refine fhW.i_gt hΓ (tgt := 35) (show fhbk _ _ (.if_icmp .gt (7)) _ = true by decide +kernel) (fun hc => ?_) (fun hc => ?_)
    · rw [if_pos hc] at h
      refine fhW.blk fhPF fhLL hΓ [(.iconst (-1), -1)] (pc' := 36) (lv' := [(2, .int (fcG q1 62 v1)), (0, .ref 0), (1, .int v1)]) (st' := [.int (-1 : Int32)]) (σ' := q1) (by decide +kernel) rfl rfl rfl ?_
      have e9 := Option.some.inj h
      subst e9
      exact fhW.iret hΓ (by decide +kernel) hk
    · rw [if_neg hc] at h
      refine fhW.blk fhPF fhLL hΓ [(.iload_n 2, 0)] (pc' := 32) (lv' := [(2, .int (fcG q1 62 v1)), (0, .ref 0), (1, .int v1)]) (st' := [.int (fcG q1 62 v1)]) (σ' := q1) (by decide +kernel) rfl rfl rfl ?_
      refine fhW.goto hΓ (off := 4) (tgt := 36) (by decide +kernel) ?_
      have e9 := Option.some.inj h
      subst e9
      exact fhW.iret hΓ (by decide +kernel) hk
  · rw [if_neg hc] at h
    refine fhW.blk fhPF fhLL hΓ [(.iconst (-1), -1)] (pc' := 9) (lv' := [(0, .ref 0), (1, .int v1)]) (st' := [.int (-1 : Int32)]) (σ' := σ) (by decide +kernel) rfl rfl rfl ?_
    have e9 := Option.some.inj h
    subst e9
    exact fhW.iret hΓ (by decide +kernel) hk
set_option maxRecDepth 100000 in
theorem T_X11_learns {E : fhE} {d : Nat} (hE : fhEok fhYF E) (hd : 5 ≤ d) (v1 : Int32)  (σ : fhM) {o : Int32 × fhM} (h : f_X11_learns v1 σ = some o) : fhC fhYF E d miX11_learns [.ref 0, .int v1] σ (some (.int o.1)) o.2 := by
  refine fhC.of (y := yX11_learns) (cc := cX11_learns) (nL := 3) (ret := (some .int)) 11 rfl (by decide +kernel) (Nat.le_of_ble_eq_true rfl) ?_
  intro Γ hΓ hR hD hEn
  subst hD; subst hEn
  exact L_X11_learns_E hE hΓ hd v1  σ _ h hR
set_option maxRecDepth 100000 in
set_option maxHeartbeats 4000000 in
theorem L_X11_rests_E {Γ : fhX} (hE : fhEok fhYF (fhEn Γ)) (hΓ : fhOk fhYF 11 cX11_rests 2 (some .int) Γ) (hd : 5 ≤ fhD Γ)   (σ : fhM) (o : Int32 × fhM) (h : f_X11_rests σ = some o) (hk : (fun o => fhRet Γ (some (.int o.1)) o.2) o) : fhW fhYF Γ 0 [(0, .ref 0)] [] σ := by
  unfold f_X11_rests at h
  refine fhW.blk fhPF fhLL hΓ [(.aload_n 0, 0), (.getfield 131, 0)] (pc' := 4) (lv' := [(0, .ref 0)]) (st' := [.int (σ.1 0 8)]) (σ' := σ) (by decide +kernel) rfl rfl rfl ?_
  refine fhW.z_ne hΓ (tgt := 9) (show fhbk _ _ (.ifCond .ne (5)) _ = true by decide +kernel) (fun hc => ?_) (fun hc => ?_)
  · rw [if_neg hc] at h
    refine fhW.blk fhPF fhLL hΓ [(.aload_n 0, 0), (.getfield 72, 0)] (pc' := 13) (lv' := [(0, .ref 0)]) (st' := [.ref 56]) (σ' := σ) (by decide +kernel) rfl rfl rfl ?_
    obtain ⟨q1, hb1, h⟩ := Option.bind_eq_some_iff.mp h
    refine fhW.callv hΓ mvX4_lookAhead ml_11_264 (t := 56) (ci := 4) (av := []) (rest := []) (r := (some (.ref 57))) (σ' := q1) (T_X4_lookAhead (E := fhEn Γ) (d := fhD Γ - 1) hE (by omega) σ hb1) (by omega) (by decide +kernel) rfl rfl rfl (Nat.le_of_ble_eq_true rfl) rfl ?_
    show fhW fhYF Γ 16 [(0, .ref 0)] [.ref 57] q1
    refine fhW.blk fhPF fhLL hΓ [(.getfield 273, 0), (.istore_n 1, 0), (.iload_n 1, 0), (.bipush 20, 20)] (pc' := 23) (lv' := [(1, .int (q1.1 57 5)), (0, .ref 0)]) (st' := [.int (20 : Int32), .int (q1.1 57 5)]) (σ' := q1) (by decide +kernel) rfl rfl rfl ?_
    refine fhW.i_gt hΓ (tgt := 30) (show fhbk _ _ (.if_icmp .gt (7)) _ = true by decide +kernel) (fun hc => ?_) (fun hc => ?_)
    · rw [if_pos hc] at h
      refine fhW.blk fhPF fhLL hΓ [(.iconst (-1), -1)] (pc' := 31) (lv' := [(1, .int (q1.1 57 5)), (0, .ref 0)]) (st' := [.int (-1 : Int32)]) (σ' := q1) (by decide +kernel) rfl rfl rfl ?_
      have e9 := Option.some.inj h
      subst e9
      exact fhW.iret hΓ (by decide +kernel) hk
    · rw [if_neg hc] at h
      refine fhW.blk fhPF fhLL hΓ [(.iload_n 1, 0)] (pc' := 27) (lv' := [(1, .int (q1.1 57 5)), (0, .ref 0)]) (st' := [.int (q1.1 57 5)]) (σ' := q1) (by decide +kernel) rfl rfl rfl ?_
      refine fhW.goto hΓ (off := 4) (tgt := 31) (by decide +kernel) ?_
      have e9 := Option.some.inj h
      subst e9
      exact fhW.iret hΓ (by decide +kernel) hk
  · rw [if_pos hc] at h
    refine fhW.blk fhPF fhLL hΓ [(.iconst (-1), -1)] (pc' := 8) (lv' := [(0, .ref 0)]) (st' := [.int (-1 : Int32)]) (σ' := σ) (by decide +kernel) rfl rfl rfl ?_
    have e9 := Option.some.inj h
    subst e9
    exact fhW.iret hΓ (by decide +kernel) hk
set_option maxRecDepth 100000 in
theorem T_X11_rests {E : fhE} {d : Nat} (hE : fhEok fhYF E) (hd : 5 ≤ d)   (σ : fhM) {o : Int32 × fhM} (h : f_X11_rests σ = some o) : fhC fhYF E d miX11_rests [.ref 0] σ (some (.int o.1)) o.2 := by
  refine fhC.of (y := yX11_rests) (cc := cX11_rests) (nL := 2) (ret := (some .int)) 11 rfl (by decide +kernel) (Nat.le_of_ble_eq_true rfl) ?_
  intro Γ hΓ hR hD hEn
  subst hD; subst hEn
  exact L_X11_rests_E hE hΓ hd   σ _ h hR
set_option maxRecDepth 100000 in
set_option maxHeartbeats 4000000 in
theorem L_X4_gatherDoubts_91 {Γ : fhX} (hE : fhEok fhYF (fhEn Γ)) (hΓ : fhOk fhYF 4 cX4_gatherDoubts 5 none Γ) (hd : 3 ≤ fhD Γ) (v1 : Int32) (v2 : Nat) (v3 : Int32) (hv2 : fhiC v2 = true) (σ : fhM) (o : (Int32 × fhM) ⊕ (fhM)) (h : f_X4_gatherDoubts_91 v1 v2 v3 σ = some o) (hk : (fhK (fun x => fhW fhYF Γ 6 [(0, .ref 56), (1, .int v1), (2, .ref v2), (3, .int x.1)] [] x.2) (fun o => fhRet Γ none o)) o) : fhW fhYF Γ 91 [(0, .ref 56), (1, .int v1), (2, .ref v2), (3, .int v3)] [] σ := by
  unfold f_X4_gatherDoubts_91 at h
  refine fhW.blk fhPF fhLL hΓ [(.iinc 3 1, 1)] (pc' := 94) (lv' := [(3, .int (v3 + (1 : Int32))), (0, .ref 56), (1, .int v1), (2, .ref v2)]) (st' := []) (σ' := σ) (by decide +kernel) rfl rfl rfl ?_
  refine fhW.goto hΓ (off := (-88)) (tgt := 6) (by decide +kernel) ?_
  refine fhW.sub (lv' := [(0, .ref 56), (1, .int v1), (2, .ref v2), (3, .int (v3 + (1 : Int32)))]) [1, 2, 3, 0] rfl ?_
  have e9 := Option.some.inj h
  subst e9
  exact hk
set_option maxRecDepth 100000 in
set_option maxHeartbeats 4000000 in
theorem L_X4_gatherDoubts_6 {Γ : fhX} (hE : fhEok fhYF (fhEn Γ)) (hΓ : fhOk fhYF 4 cX4_gatherDoubts 5 none Γ) (hd : 3 ≤ fhD Γ) (v1 : Int32) (v2 : Nat) (v3 : Int32) (hv2 : fhiC v2 = true) (σ : fhM) (o : (Int32 × fhM) ⊕ (fhM)) (h : f_X4_gatherDoubts_6 v1 v2 v3 σ = some o) (hk : (fhK (fun x => fhW fhYF Γ 6 [(0, .ref 56), (1, .int v1), (2, .ref v2), (3, .int x.1)] [] x.2) (fun o => fhRet Γ none o)) o) : fhW fhYF Γ 6 [(0, .ref 56), (1, .int v1), (2, .ref v2), (3, .int v3)] [] σ := by
  unfold f_X4_gatherDoubts_6 at h
  refine fhW.blk fhPF fhLL hΓ [(.iload_n 3, 0), (.aload_n 0, 0), (.getfield 63, 0)] (pc' := 11) (lv' := [(0, .ref 56), (1, .int v1), (2, .ref v2), (3, .int v3)]) (st' := [.int (σ.1 56 8), .int v3]) (σ' := σ) (by decide +kernel) rfl rfl rfl ?_
  refine fhW.i_ge hΓ (tgt := 97) (show fhbk _ _ (.if_icmp .ge (86)) _ = true by decide +kernel) (fun hc => ?_) (fun hc => ?_)
  · rw [if_pos hc] at h
    have e9 := Option.some.inj h
    subst e9
    exact fhW.vret hΓ (by decide +kernel) hk
  · rw [if_neg hc] at h
    refine fhW.blk fhPF fhLL hΓ [(.aload_n 0, 0), (.getfield 36, 0), (.iload_n 3, 0)] (pc' := 19) (lv' := [(0, .ref 56), (1, .int v1), (2, .ref v2), (3, .int v3)]) (st' := [.int v3, .ref 72]) (σ' := σ) (by decide +kernel) rfl rfl rfl ?_
    refine fhW.callv hΓ mvX2_get ml_4_55 (t := 72) (ci := 2) (av := [.int v3]) (rest := []) (r := (some (.int (fcG σ 72 v3)))) (σ' := σ) (T_X2_get (E := fhEn Γ) (d := fhD Γ - 1) hE (by omega) 72 v3 rfl σ) (by omega) (by decide +kernel) rfl rfl rfl (Nat.le_of_ble_eq_true rfl) rfl ?_
    show fhW fhYF Γ 22 [(0, .ref 56), (1, .int v1), (2, .ref v2), (3, .int v3)] [.int (fcG σ 72 v3)] σ
    refine fhW.blk fhPF fhLL hΓ [(.istore 4, 0), (.aload_n 0, 0), (.iload_n 1, 0), (.iload 4, 0)] (pc' := 28) (lv' := [(4, .int (fcG σ 72 v3)), (0, .ref 56), (1, .int v1), (2, .ref v2), (3, .int v3)]) (st' := [.int (fcG σ 72 v3), .int v1, .ref 56]) (σ' := σ) (by decide +kernel) rfl rfl rfl ?_
    refine fhW.callv hΓ mvX4_isRowOf ml_4_90 (t := 56) (ci := 4) (av := [.int v1, .int (fcG σ 72 v3)]) (rest := []) (r := (some (.int (fhb (f_X4_isRowOf v1 (fcG σ 72 v3) σ))))) (σ' := σ) (T_X4_isRowOf (E := fhEn Γ) (d := fhD Γ - 1) hE (by omega) v1 (fcG σ 72 v3) σ) (by omega) (by decide +kernel) rfl rfl rfl (Nat.le_of_ble_eq_true rfl) rfl ?_
    show fhW fhYF Γ 31 [(4, .int (fcG σ 72 v3)), (0, .ref 56), (1, .int v1), (2, .ref v2), (3, .int v3)] [.int (fhb (f_X4_isRowOf v1 (fcG σ 72 v3) σ))] σ
    refine fhW.b_eq hΓ (tgt := 91) (show fhbk _ _ (.ifCond .eq (60)) _ = true by decide +kernel) (fun hc => ?_) (fun hc => ?_)
    · rw [if_neg hc] at h
      refine fhW.sub (lv' := [(0, .ref 56), (1, .int v1), (2, .ref v2), (3, .int v3)]) [1, 2, 3, 4] rfl ?_
      exact L_X4_gatherDoubts_91 hE hΓ hd v1 v2 v3 hv2 σ _ h hk
    · rw [if_pos hc] at h
      refine fhW.blk fhPF fhLL hΓ [(.aload_n 0, 0), (.getfield 42, 0), (.iload 4, 0), (.iload_n 1, 0)] (pc' := 41) (lv' := [(4, .int (fcG σ 72 v3)), (0, .ref 56), (1, .int v1), (2, .ref v2), (3, .int v3)]) (st' := [.int v1, .int (fcG σ 72 v3), .ref 39]) (σ' := σ) (by decide +kernel) rfl rfl rfl ?_
      refine fhW.callv hΓ mvX9_markOf ml_4_94 (t := 39) (ci := 9) (av := [.int (fcG σ 72 v3), .int v1]) (rest := []) (r := (some (.int (f_X9_markOf (fcG σ 72 v3) v1 σ)))) (σ' := σ) (T_X9_markOf (E := fhEn Γ) (d := fhD Γ - 1) hE (by omega) (fcG σ 72 v3) v1 σ) (by omega) (by decide +kernel) rfl rfl rfl (Nat.le_of_ble_eq_true rfl) rfl ?_
      show fhW fhYF Γ 44 [(4, .int (fcG σ 72 v3)), (0, .ref 56), (1, .int v1), (2, .ref v2), (3, .int v3)] [.int (f_X9_markOf (fcG σ 72 v3) v1 σ)] σ
      refine fhW.blk fhPF fhLL hΓ [(.aload_n 0, 0), (.getfield 42, 0), (.aload_n 0, 0), (.getfield 69, 0), (.iload_n 1, 0)] (pc' := 53) (lv' := [(4, .int (fcG σ 72 v3)), (0, .ref 56), (1, .int v1), (2, .ref v2), (3, .int v3)]) (st' := [.int v1, .int (σ.1 56 9), .ref 39, .int (f_X9_markOf (fcG σ 72 v3) v1 σ)]) (σ' := σ) (by decide +kernel) rfl rfl rfl ?_
      refine fhW.callv hΓ mvX9_markOf ml_4_94 (t := 39) (ci := 9) (av := [.int (σ.1 56 9), .int v1]) (rest := [.int (f_X9_markOf (fcG σ 72 v3) v1 σ)]) (r := (some (.int (f_X9_markOf (σ.1 56 9) v1 σ)))) (σ' := σ) (T_X9_markOf (E := fhEn Γ) (d := fhD Γ - 1) hE (by omega) (σ.1 56 9) v1 σ) (by omega) (by decide +kernel) rfl rfl rfl (Nat.le_of_ble_eq_true rfl) rfl ?_
      show fhW fhYF Γ 56 [(4, .int (fcG σ 72 v3)), (0, .ref 56), (1, .int v1), (2, .ref v2), (3, .int v3)] [.int (f_X9_markOf (σ.1 56 9) v1 σ), .int (f_X9_markOf (fcG σ 72 v3) v1 σ)] σ
      refine fhW.i_eq hΓ (tgt := 91) (show fhbk _ _ (.if_icmp .eq (35)) _ = true by decide +kernel) (fun hc => ?_) (fun hc => ?_)
      · rw [if_pos hc] at h
        refine fhW.sub (lv' := [(0, .ref 56), (1, .int v1), (2, .ref v2), (3, .int v3)]) [1, 2, 3, 4] rfl ?_
        exact L_X4_gatherDoubts_91 hE hΓ hd v1 v2 v3 hv2 σ _ h hk
      · rw [if_neg hc] at h
        refine fhW.blk fhPF fhLL hΓ [(.aload_n 2, 0), (.aload_n 0, 0), (.getfield 42, 0), (.getfield 129, 0), (.iload 4, 0)] (pc' := 69) (lv' := [(4, .int (fcG σ 72 v3)), (0, .ref 56), (1, .int v1), (2, .ref v2), (3, .int v3)]) (st' := [.int (fcG σ 72 v3), .ref 52, .ref v2]) (σ' := σ) (by decide +kernel) rfl rfl rfl ?_
        refine fhW.callv hΓ mvX2_get ml_4_55 (t := 52) (ci := 2) (av := [.int (fcG σ 72 v3)]) (rest := [.ref v2]) (r := (some (.int (fcG σ 52 (fcG σ 72 v3))))) (σ' := σ) (T_X2_get (E := fhEn Γ) (d := fhD Γ - 1) hE (by omega) 52 (fcG σ 72 v3) rfl σ) (by omega) (by decide +kernel) rfl rfl rfl (Nat.le_of_ble_eq_true rfl) rfl ?_
        show fhW fhYF Γ 72 [(4, .int (fcG σ 72 v3)), (0, .ref 56), (1, .int v1), (2, .ref v2), (3, .int v3)] [.int (fcG σ 52 (fcG σ 72 v3)), .ref v2] σ
        refine fhW.blk fhPF fhLL hΓ [(.aload_n 0, 0), (.getfield 42, 0), (.getfield 129, 0), (.aload_n 0, 0), (.getfield 69, 0)] (pc' := 83) (lv' := [(4, .int (fcG σ 72 v3)), (0, .ref 56), (1, .int v1), (2, .ref v2), (3, .int v3)]) (st' := [.int (σ.1 56 9), .ref 52, .int (fcG σ 52 (fcG σ 72 v3)), .ref v2]) (σ' := σ) (by decide +kernel) rfl rfl rfl ?_
        refine fhW.callv hΓ mvX2_get ml_4_55 (t := 52) (ci := 2) (av := [.int (σ.1 56 9)]) (rest := [.int (fcG σ 52 (fcG σ 72 v3)), .ref v2]) (r := (some (.int (fcG σ 52 (σ.1 56 9))))) (σ' := σ) (T_X2_get (E := fhEn Γ) (d := fhD Γ - 1) hE (by omega) 52 (σ.1 56 9) rfl σ) (by omega) (by decide +kernel) rfl rfl rfl (Nat.le_of_ble_eq_true rfl) rfl ?_
        show fhW fhYF Γ 86 [(4, .int (fcG σ 72 v3)), (0, .ref 56), (1, .int v1), (2, .ref v2), (3, .int v3)] [.int (fcG σ 52 (σ.1 56 9)), .int (fcG σ 52 (fcG σ 72 v3)), .ref v2] σ
        refine fhW.blk fhPF fhLL hΓ [(.ixor, 0), (.iconst 1, 1)] (pc' := 88) (lv' := [(4, .int (fcG σ 72 v3)), (0, .ref 56), (1, .int v1), (2, .ref v2), (3, .int v3)]) (st' := [.int (1 : Int32), .int ((fcG σ 52 (fcG σ 72 v3)) ^^^ (fcG σ 52 (σ.1 56 9))), .ref v2]) (σ' := σ) (by decide +kernel) rfl rfl rfl ?_
        refine fhW.callv hΓ mvX2_put ml_4_59 (t := v2) (ci := 2) (av := [.int ((fcG σ 52 (fcG σ 72 v3)) ^^^ (fcG σ 52 (σ.1 56 9))), .int (1 : Int32)]) (rest := []) (r := none) (σ' := (fcP σ v2 ((fcG σ 52 (fcG σ 72 v3)) ^^^ (fcG σ 52 (σ.1 56 9))) (1 : Int32))) (T_X2_put (E := fhEn Γ) (d := fhD Γ - 1) hE (by omega) v2 ((fcG σ 52 (fcG σ 72 v3)) ^^^ (fcG σ 52 (σ.1 56 9))) (1 : Int32) hv2 σ) (by omega) (by decide +kernel) rfl (fhiC_g hv2) rfl (Nat.le_of_ble_eq_true rfl) rfl ?_
        show fhW fhYF Γ 91 [(4, .int (fcG σ 72 v3)), (0, .ref 56), (1, .int v1), (2, .ref v2), (3, .int v3)] [] (fcP σ v2 ((fcG σ 52 (fcG σ 72 v3)) ^^^ (fcG σ 52 (σ.1 56 9))) (1 : Int32))
        refine fhW.sub (lv' := [(0, .ref 56), (1, .int v1), (2, .ref v2), (3, .int v3)]) [1, 2, 3, 4] rfl ?_
        exact L_X4_gatherDoubts_91 hE hΓ hd v1 v2 v3 hv2 (fcP σ v2 ((fcG σ 52 (fcG σ 72 v3)) ^^^ (fcG σ 52 (σ.1 56 9))) (1 : Int32)) _ h hk
set_option maxRecDepth 100000 in
set_option maxHeartbeats 4000000 in
theorem L_X4_gatherDoubts_E {Γ : fhX} (hE : fhEok fhYF (fhEn Γ)) (hΓ : fhOk fhYF 4 cX4_gatherDoubts 5 none Γ) (hd : 3 ≤ fhD Γ) (v1 : Int32) (v2 : Nat) (hv2 : fhiC v2 = true) (σ : fhM) (o : fhM) (h : f_X4_gatherDoubts v1 v2 σ = some o) (hk : (fun o => fhRet Γ none o) o) : fhW fhYF Γ 0 [(0, .ref 56), (1, .int v1), (2, .ref v2)] [] σ := by
  unfold f_X4_gatherDoubts at h
  refine fhW.blk fhPF fhLL hΓ [(.aload_n 2, 0)] (pc' := 1) (lv' := [(0, .ref 56), (1, .int v1), (2, .ref v2)]) (st' := [.ref v2]) (σ' := σ) (by decide +kernel) rfl rfl rfl ?_
  refine fhW.callv hΓ mvX2_wipe ml_4_126 (t := v2) (ci := 2) (av := []) (rest := []) (r := none) (σ' := (fcW σ v2)) (T_X2_wipe (E := fhEn Γ) (d := fhD Γ - 1) hE (by omega) v2 hv2 σ) (by omega) (by decide +kernel) rfl (fhiC_g hv2) rfl (Nat.le_of_ble_eq_true rfl) rfl ?_
  show fhW fhYF Γ 4 [(0, .ref 56), (1, .int v1), (2, .ref v2)] [] (fcW σ v2)
  refine fhW.blk fhPF fhLL hΓ [(.iconst 0, 0), (.istore_n 3, 0)] (pc' := 6) (lv' := [(3, .int (0 : Int32)), (0, .ref 56), (1, .int v1), (2, .ref v2)]) (st' := []) (σ' := (fcW σ v2)) (by decide +kernel) rfl rfl rfl ?_
  refine fhW.sub (lv' := [(0, .ref 56), (1, .int v1), (2, .ref v2), (3, .int (0 : Int32))]) [1, 2, 3, 0] rfl ?_
  exact fhlp_ok (W := (fun x => fhW fhYF Γ 6 [(0, .ref 56), (1, .int v1), (2, .ref v2), (3, .int x.1)] [] x.2)) (B := (fun o => fhRet Γ none o)) (fun x o h hk => L_X4_gatherDoubts_6 hE hΓ hd v1 v2 x.1 hv2 x.2 o h hk) ((0 : Int32), (fcW σ v2)) _ h hk
set_option maxRecDepth 100000 in
theorem T_X4_gatherDoubts {E : fhE} {d : Nat} (hE : fhEok fhYF E) (hd : 3 ≤ d) (v1 : Int32) (v2 : Nat) (hv2 : fhiC v2 = true) (σ : fhM) {o : fhM} (h : f_X4_gatherDoubts v1 v2 σ = some o) : fhC fhYF E d miX4_gatherDoubts [.ref 56, .int v1, .ref v2] σ none o := by
  refine fhC.of (y := yX4_gatherDoubts) (cc := cX4_gatherDoubts) (nL := 5) (ret := none) 4 rfl (by decide +kernel) (Nat.le_of_ble_eq_true rfl) ?_
  intro Γ hΓ hR hD hEn
  subst hD; subst hEn
  exact L_X4_gatherDoubts_E hE hΓ hd v1 v2 hv2 σ _ h hR
set_option maxRecDepth 100000 in
set_option maxHeartbeats 4000000 in
theorem L_X4_isCleared_31 {Γ : fhX} (hE : fhEok fhYF (fhEn Γ)) (hΓ : fhOk fhYF 4 cX4_isCleared 4 (some .boolean) Γ) (hd : 1 ≤ fhD Γ) (v1 : Nat) (v2 : Int32) (v3 : Int32) (hv1 : fhiC v1 = true) (σ : fhM) (o : (Int32) ⊕ (Bool)) (h : f_X4_isCleared_31 v1 v2 v3 σ = some o) (hk : (fhK (fun x => fhW fhYF Γ 2 [(0, .ref 56), (1, .ref v1), (2, .int v2), (3, .int x)] [] σ) (fun o => fhRet Γ (some (.int (fhb o))) σ)) o) : fhW fhYF Γ 31 [(0, .ref 56), (1, .ref v1), (2, .int v2), (3, .int v3)] [] σ := by
  unfold f_X4_isCleared_31 at h
  refine fhW.blk fhPF fhLL hΓ [(.iinc 3 1, 1)] (pc' := 34) (lv' := [(3, .int (v3 + (1 : Int32))), (0, .ref 56), (1, .ref v1), (2, .int v2)]) (st' := []) (σ' := σ) (by decide +kernel) rfl rfl rfl ?_
  refine fhW.goto hΓ (off := (-32)) (tgt := 2) (by decide +kernel) ?_
  refine fhW.sub (lv' := [(0, .ref 56), (1, .ref v1), (2, .int v2), (3, .int (v3 + (1 : Int32)))]) [1, 2, 3, 0] rfl ?_
  have e9 := Option.some.inj h
  subst e9
  exact hk
set_option maxRecDepth 100000 in
set_option maxHeartbeats 4000000 in
theorem L_X4_isCleared_2 {Γ : fhX} (hE : fhEok fhYF (fhEn Γ)) (hΓ : fhOk fhYF 4 cX4_isCleared 4 (some .boolean) Γ) (hd : 1 ≤ fhD Γ) (v1 : Nat) (v2 : Int32) (v3 : Int32) (hv1 : fhiC v1 = true) (σ : fhM) (o : (Int32) ⊕ (Bool)) (h : f_X4_isCleared_2 v1 v2 v3 σ = some o) (hk : (fhK (fun x => fhW fhYF Γ 2 [(0, .ref 56), (1, .ref v1), (2, .int v2), (3, .int x)] [] σ) (fun o => fhRet Γ (some (.int (fhb o))) σ)) o) : fhW fhYF Γ 2 [(0, .ref 56), (1, .ref v1), (2, .int v2), (3, .int v3)] [] σ := by
  unfold f_X4_isCleared_2 at h
  refine fhW.blk fhPF fhLL hΓ [(.iload_n 3, 0), (.iconst 1, 1), (.aload_n 0, 0), (.getfield 42, 0), (.getfield 114, 0), (.ishl, 0)] (pc' := 12) (lv' := [(0, .ref 56), (1, .ref v1), (2, .int v2), (3, .int v3)]) (st' := [.int ((1 : Int32) <<< ((σ.1 39 10) &&& 31)), .int v3]) (σ' := σ) (by decide +kernel) rfl rfl rfl ?_
  refine fhW.i_ge hΓ (tgt := 37) (show fhbk _ _ (.if_icmp .ge (25)) _ = true by decide +kernel) (fun hc => ?_) (fun hc => ?_)
  · rw [if_pos hc] at h
    refine fhW.blk fhPF fhLL hΓ [(.iconst 1, 1)] (pc' := 38) (lv' := [(0, .ref 56), (1, .ref v1), (2, .int v2), (3, .int v3)]) (st' := [.int (1 : Int32)]) (σ' := σ) (by decide +kernel) rfl rfl rfl ?_
    have e9 := Option.some.inj h
    subst e9
    exact fhW.zret (v := true) hΓ (by decide +kernel) hk
  · rw [if_neg hc] at h
    refine fhW.blk fhPF fhLL hΓ [(.aload_n 1, 0), (.iload_n 3, 0)] (pc' := 17) (lv' := [(0, .ref 56), (1, .ref v1), (2, .int v2), (3, .int v3)]) (st' := [.int v3, .ref v1]) (σ' := σ) (by decide +kernel) rfl rfl rfl ?_
    refine fhW.callv hΓ mvX2_get ml_4_55 (t := v1) (ci := 2) (av := [.int v3]) (rest := []) (r := (some (.int (fcG σ v1 v3)))) (σ' := σ) (T_X2_get (E := fhEn Γ) (d := fhD Γ - 1) hE (by omega) v1 v3 hv1 σ) (by omega) (by decide +kernel) rfl (fhiC_g hv1) rfl (Nat.le_of_ble_eq_true rfl) rfl ?_
    show fhW fhYF Γ 20 [(0, .ref 56), (1, .ref v1), (2, .int v2), (3, .int v3)] [.int (fcG σ v1 v3)] σ
    refine fhW.z_eq hΓ (tgt := 31) (show fhbk _ _ (.ifCond .eq (11)) _ = true by decide +kernel) (fun hc => ?_) (fun hc => ?_)
    · rw [if_pos hc] at h
      refine fhW.sub (lv' := [(0, .ref 56), (1, .ref v1), (2, .int v2), (3, .int v3)]) [0, 1, 2, 3] rfl ?_
      exact L_X4_isCleared_31 hE hΓ hd v1 v2 v3 hv1 σ _ h hk
    · rw [if_neg hc] at h
      refine fhW.blk fhPF fhLL hΓ [(.iload_n 3, 0), (.iload_n 2, 0), (.iand, 0)] (pc' := 26) (lv' := [(0, .ref 56), (1, .ref v1), (2, .int v2), (3, .int v3)]) (st' := [.int (v3 &&& v2)]) (σ' := σ) (by decide +kernel) rfl rfl rfl ?_
      refine fhW.z_ne hΓ (tgt := 31) (show fhbk _ _ (.ifCond .ne (5)) _ = true by decide +kernel) (fun hc => ?_) (fun hc => ?_)
      · rw [if_neg hc] at h
        refine fhW.sub (lv' := [(0, .ref 56), (1, .ref v1), (2, .int v2), (3, .int v3)]) [0, 1, 2, 3] rfl ?_
        exact L_X4_isCleared_31 hE hΓ hd v1 v2 v3 hv1 σ _ h hk
      · rw [if_pos hc] at h
        refine fhW.blk fhPF fhLL hΓ [(.iconst 0, 0)] (pc' := 30) (lv' := [(0, .ref 56), (1, .ref v1), (2, .int v2), (3, .int v3)]) (st' := [.int (0 : Int32)]) (σ' := σ) (by decide +kernel) rfl rfl rfl ?_
        have e9 := Option.some.inj h
        subst e9
        exact fhW.zret (v := false) hΓ (by decide +kernel) hk
set_option maxRecDepth 100000 in
set_option maxHeartbeats 4000000 in
theorem L_X4_isCleared_E {Γ : fhX} (hE : fhEok fhYF (fhEn Γ)) (hΓ : fhOk fhYF 4 cX4_isCleared 4 (some .boolean) Γ) (hd : 1 ≤ fhD Γ) (v1 : Nat) (v2 : Int32) (hv1 : fhiC v1 = true) (σ : fhM) (o : Bool) (h : f_X4_isCleared v1 v2 σ = some o) (hk : (fun o => fhRet Γ (some (.int (fhb o))) σ) o) : fhW fhYF Γ 0 [(0, .ref 56), (1, .ref v1), (2, .int v2)] [] σ := by
  unfold f_X4_isCleared at h
  refine fhW.blk fhPF fhLL hΓ [(.iconst 0, 0), (.istore_n 3, 0)] (pc' := 2) (lv' := [(3, .int (0 : Int32)), (0, .ref 56), (1, .ref v1), (2, .int v2)]) (st' := []) (σ' := σ) (by decide +kernel) rfl rfl rfl ?_
  refine fhW.sub (lv' := [(0, .ref 56), (1, .ref v1), (2, .int v2), (3, .int (0 : Int32))]) [1, 2, 3, 0] rfl ?_
  exact fhlp_ok (W := (fun x => fhW fhYF Γ 2 [(0, .ref 56), (1, .ref v1), (2, .int v2), (3, .int x)] [] σ)) (B := (fun o => fhRet Γ (some (.int (fhb o))) σ)) (fun x o h hk => L_X4_isCleared_2 hE hΓ hd v1 v2 x hv1 σ o h hk) (0 : Int32) _ h hk
set_option maxRecDepth 100000 in
theorem T_X4_isCleared {E : fhE} {d : Nat} (hE : fhEok fhYF E) (hd : 1 ≤ d) (v1 : Nat) (v2 : Int32) (hv1 : fhiC v1 = true) (σ : fhM) {o : Bool} (h : f_X4_isCleared v1 v2 σ = some o) : fhC fhYF E d miX4_isCleared [.ref 56, .ref v1, .int v2] σ (some (.int (fhb o))) σ := by
  refine fhC.of (y := yX4_isCleared) (cc := cX4_isCleared) (nL := 4) (ret := (some .boolean)) 4 rfl (by decide +kernel) (Nat.le_of_ble_eq_true rfl) ?_
  intro Γ hΓ hR hD hEn
  subst hD; subst hEn
  exact L_X4_isCleared_E hE hΓ hd v1 v2 hv1 σ _ h hR
set_option maxRecDepth 100000 in
set_option maxHeartbeats 4000000 in
theorem L_X4_fewestFacts_105 {Γ : fhX} (hE : fhEok fhYF (fhEn Γ)) (hΓ : fhOk fhYF 4 cX4_fewestFacts 6 (some .int) Γ) (hd : 4 ≤ fhD Γ) (v2 : Int32) (v3 : Int32) (v4 : Int32)  (σ : fhM) (o : (Int32 × Int32) ⊕ (Int32 × fhM)) (h : f_X4_fewestFacts_105 v2 v3 v4 σ = some o) (hk : (fhK (fun x => fhW fhYF Γ 28 [(0, .ref 56), (2, .int v2), (3, .int x.1), (4, .int x.2)] [] σ) (fun o => fhRet Γ (some (.int o.1)) o.2)) o) : fhW fhYF Γ 105 [(0, .ref 56), (2, .int v2), (3, .int v3), (4, .int v4)] [] σ := by
  unfold f_X4_fewestFacts_105 at h
  refine fhW.blk fhPF fhLL hΓ [(.iinc 4 1, 1)] (pc' := 108) (lv' := [(4, .int (v4 + (1 : Int32))), (0, .ref 56), (2, .int v2), (3, .int v3)]) (st' := []) (σ' := σ) (by decide +kernel) rfl rfl rfl ?_
  refine fhW.goto hΓ (off := (-80)) (tgt := 28) (by decide +kernel) ?_
  refine fhW.sub (lv' := [(0, .ref 56), (2, .int v2), (3, .int v3), (4, .int (v4 + (1 : Int32)))]) [1, 2, 3, 0] rfl ?_
  have e9 := Option.some.inj h
  subst e9
  exact hk
set_option maxRecDepth 100000 in
set_option maxHeartbeats 4000000 in
theorem L_X4_fewestFacts_102 {Γ : fhX} (hE : fhEok fhYF (fhEn Γ)) (hΓ : fhOk fhYF 4 cX4_fewestFacts 6 (some .int) Γ) (hd : 4 ≤ fhD Γ) (v2 : Int32) (v4 : Int32)  (σ : fhM) (o : (Int32 × Int32) ⊕ (Int32 × fhM)) (h : f_X4_fewestFacts_102 v2 v4 σ = some o) (hk : (fhK (fun x => fhW fhYF Γ 28 [(0, .ref 56), (2, .int v2), (3, .int x.1), (4, .int x.2)] [] σ) (fun o => fhRet Γ (some (.int o.1)) o.2)) o) : fhW fhYF Γ 102 [(0, .ref 56), (2, .int v2), (4, .int v4)] [] σ := by
  unfold f_X4_fewestFacts_102 at h
  refine fhW.blk fhPF fhLL hΓ [(.iload 4, 0), (.istore_n 3, 0)] (pc' := 105) (lv' := [(3, .int v4), (0, .ref 56), (2, .int v2), (4, .int v4)]) (st' := []) (σ' := σ) (by decide +kernel) rfl rfl rfl ?_
  refine fhW.sub (lv' := [(0, .ref 56), (2, .int v2), (3, .int v4), (4, .int v4)]) [1, 2, 0, 3] rfl ?_
  exact L_X4_fewestFacts_105 hE hΓ hd v2 v4 v4 σ _ h hk
set_option maxRecDepth 100000 in
set_option maxHeartbeats 4000000 in
theorem L_X4_fewestFacts_64 {Γ : fhX} (hE : fhEok fhYF (fhEn Γ)) (hΓ : fhOk fhYF 4 cX4_fewestFacts 6 (some .int) Γ) (hd : 4 ≤ fhD Γ) (v2 : Int32) (v3 : Int32) (v4 : Int32) (s0 : Int32)  (σ : fhM) (o : (Int32 × Int32) ⊕ (Int32 × fhM)) (h : f_X4_fewestFacts_64 v2 v3 v4 s0 σ = some o) (hk : (fhK (fun x => fhW fhYF Γ 28 [(0, .ref 56), (2, .int v2), (3, .int x.1), (4, .int x.2)] [] σ) (fun o => fhRet Γ (some (.int o.1)) o.2)) o) : fhW fhYF Γ 64 [(0, .ref 56), (2, .int v2), (3, .int v3), (4, .int v4)] [.int s0] σ := by
  unfold f_X4_fewestFacts_64 at h
  refine fhW.blk fhPF fhLL hΓ [(.istore 5, 0), (.iload 5, 0)] (pc' := 68) (lv' := [(5, .int s0), (0, .ref 56), (2, .int v2), (3, .int v3), (4, .int v4)]) (st' := [.int s0]) (σ' := σ) (by decide +kernel) rfl rfl rfl ?_
  refine fhW.z_eq hΓ (tgt := 105) (show fhbk _ _ (.ifCond .eq (37)) _ = true by decide +kernel) (fun hc => ?_) (fun hc => ?_)
  · rw [if_pos hc] at h
    refine fhW.sub (lv' := [(0, .ref 56), (2, .int v2), (3, .int v3), (4, .int v4)]) [1, 2, 3, 4] rfl ?_
    exact L_X4_fewestFacts_105 hE hΓ hd v2 v3 v4 σ _ h hk
  · rw [if_neg hc] at h
    refine fhW.blk fhPF fhLL hΓ [(.aload_n 0, 0), (.aload_n 0, 0), (.getfield 30, 0), (.iload 4, 0)] (pc' := 78) (lv' := [(5, .int s0), (0, .ref 56), (2, .int v2), (3, .int v3), (4, .int v4)]) (st' := [.int v4, .ref 68, .ref 56]) (σ' := σ) (by decide +kernel) rfl rfl rfl ?_
    obtain ⟨q3, hb1, h⟩ := Option.bind_eq_some_iff.mp h
    refine fhW.callv hΓ mvX4_isCleared ml_4_122 (t := 56) (ci := 4) (av := [.ref 68, .int v4]) (rest := []) (r := (some (.int (fhb q3)))) (σ' := σ) (T_X4_isCleared (E := fhEn Γ) (d := fhD Γ - 1) hE (by omega) 68 v4 rfl σ hb1) (by omega) (by decide +kernel) rfl rfl rfl (Nat.le_of_ble_eq_true rfl) rfl ?_
    show fhW fhYF Γ 81 [(5, .int s0), (0, .ref 56), (2, .int v2), (3, .int v3), (4, .int v4)] [.int (fhb q3)] σ
    refine fhW.b_eq hΓ (tgt := 105) (show fhbk _ _ (.ifCond .eq (24)) _ = true by decide +kernel) (fun hc => ?_) (fun hc => ?_)
    · rw [if_neg hc] at h
      refine fhW.sub (lv' := [(0, .ref 56), (2, .int v2), (3, .int v3), (4, .int v4)]) [1, 2, 3, 4] rfl ?_
      exact L_X4_fewestFacts_105 hE hΓ hd v2 v3 v4 σ _ h hk
    · rw [if_pos hc] at h
      refine fhW.blk fhPF fhLL hΓ [(.iload_n 2, 0), (.iconst (-1), -1)] (pc' := 86) (lv' := [(5, .int s0), (0, .ref 56), (2, .int v2), (3, .int v3), (4, .int v4)]) (st' := [.int (-1 : Int32), .int v2]) (σ' := σ) (by decide +kernel) rfl rfl rfl ?_
      refine fhW.i_eq hΓ (tgt := 102) (show fhbk _ _ (.if_icmp .eq (16)) _ = true by decide +kernel) (fun hc => ?_) (fun hc => ?_)
      · rw [if_pos hc] at h
        refine fhW.sub (lv' := [(0, .ref 56), (2, .int v2), (4, .int v4)]) [1, 2, 4] rfl ?_
        exact L_X4_fewestFacts_102 hE hΓ hd v2 v4 σ _ h hk
      · rw [if_neg hc] at h
        refine fhW.blk fhPF fhLL hΓ [(.aload_n 0, 0), (.aload_n 0, 0), (.getfield 33, 0), (.iload 4, 0)] (pc' := 96) (lv' := [(5, .int s0), (0, .ref 56), (2, .int v2), (3, .int v3), (4, .int v4)]) (st' := [.int v4, .ref 70, .ref 56]) (σ' := σ) (by decide +kernel) rfl rfl rfl ?_
        obtain ⟨q4, hb2, h⟩ := Option.bind_eq_some_iff.mp h
        refine fhW.callv hΓ mvX4_isCleared ml_4_122 (t := 56) (ci := 4) (av := [.ref 70, .int v4]) (rest := []) (r := (some (.int (fhb q4)))) (σ' := σ) (T_X4_isCleared (E := fhEn Γ) (d := fhD Γ - 1) hE (by omega) 70 v4 rfl σ hb2) (by omega) (by decide +kernel) rfl rfl rfl (Nat.le_of_ble_eq_true rfl) rfl ?_
        show fhW fhYF Γ 99 [(5, .int s0), (0, .ref 56), (2, .int v2), (3, .int v3), (4, .int v4)] [.int (fhb q4)] σ
        refine fhW.b_ne hΓ (tgt := 105) (show fhbk _ _ (.ifCond .ne (6)) _ = true by decide +kernel) (fun hc => ?_) (fun hc => ?_)
        · rw [if_pos hc] at h
          refine fhW.sub (lv' := [(0, .ref 56), (2, .int v2), (3, .int v3), (4, .int v4)]) [1, 2, 3, 4] rfl ?_
          exact L_X4_fewestFacts_105 hE hΓ hd v2 v3 v4 σ _ h hk
        · rw [if_neg hc] at h
          refine fhW.sub (lv' := [(0, .ref 56), (2, .int v2), (4, .int v4)]) [1, 2, 4] rfl ?_
          exact L_X4_fewestFacts_102 hE hΓ hd v2 v4 σ _ h hk
set_option maxRecDepth 100000 in
set_option maxHeartbeats 4000000 in
theorem L_X4_fewestFacts_59 {Γ : fhX} (hE : fhEok fhYF (fhEn Γ)) (hΓ : fhOk fhYF 4 cX4_fewestFacts 6 (some .int) Γ) (hd : 4 ≤ fhD Γ) (v2 : Int32) (v3 : Int32) (v4 : Int32)  (σ : fhM) (o : (Int32 × Int32) ⊕ (Int32 × fhM)) (h : f_X4_fewestFacts_59 v2 v3 v4 σ = some o) (hk : (fhK (fun x => fhW fhYF Γ 28 [(0, .ref 56), (2, .int v2), (3, .int x.1), (4, .int x.2)] [] σ) (fun o => fhRet Γ (some (.int o.1)) o.2)) o) : fhW fhYF Γ 59 [(0, .ref 56), (2, .int v2), (3, .int v3), (4, .int v4)] [] σ := by
  unfold f_X4_fewestFacts_59 at h
  refine fhW.blk fhPF fhLL hΓ [(.iconst 1, 1)] (pc' := 60) (lv' := [(0, .ref 56), (2, .int v2), (3, .int v3), (4, .int v4)]) (st' := [.int (1 : Int32)]) (σ' := σ) (by decide +kernel) rfl rfl rfl ?_
  refine fhW.goto hΓ (off := 4) (tgt := 64) (by decide +kernel) ?_
  refine fhW.sub (lv' := [(0, .ref 56), (2, .int v2), (3, .int v3), (4, .int v4)]) [0, 1, 2, 3] rfl ?_
  exact L_X4_fewestFacts_64 hE hΓ hd v2 v3 v4 (1 : Int32) σ _ h hk
set_option maxRecDepth 100000 in
set_option maxHeartbeats 4000000 in
theorem L_X4_fewestFacts_28 {Γ : fhX} (hE : fhEok fhYF (fhEn Γ)) (hΓ : fhOk fhYF 4 cX4_fewestFacts 6 (some .int) Γ) (hd : 4 ≤ fhD Γ) (v2 : Int32) (v3 : Int32) (v4 : Int32)  (σ : fhM) (o : (Int32 × Int32) ⊕ (Int32 × fhM)) (h : f_X4_fewestFacts_28 v2 v3 v4 σ = some o) (hk : (fhK (fun x => fhW fhYF Γ 28 [(0, .ref 56), (2, .int v2), (3, .int x.1), (4, .int x.2)] [] σ) (fun o => fhRet Γ (some (.int o.1)) o.2)) o) : fhW fhYF Γ 28 [(0, .ref 56), (2, .int v2), (3, .int v3), (4, .int v4)] [] σ := by
  unfold f_X4_fewestFacts_28 at h
  refine fhW.blk fhPF fhLL hΓ [(.iload 4, 0), (.iconst 1, 1), (.aload_n 0, 0), (.getfield 42, 0), (.getfield 114, 0), (.ishl, 0)] (pc' := 39) (lv' := [(0, .ref 56), (2, .int v2), (3, .int v3), (4, .int v4)]) (st' := [.int ((1 : Int32) <<< ((σ.1 39 10) &&& 31)), .int v4]) (σ' := σ) (by decide +kernel) rfl rfl rfl ?_
  refine fhW.i_ge hΓ (tgt := 111) (show fhbk _ _ (.if_icmp .ge (72)) _ = true by decide +kernel) (fun hc => ?_) (fun hc => ?_)
  · rw [if_pos hc] at h
    refine fhW.blk fhPF fhLL hΓ [(.iload_n 3, 0)] (pc' := 112) (lv' := [(0, .ref 56), (2, .int v2), (3, .int v3), (4, .int v4)]) (st' := [.int v3]) (σ' := σ) (by decide +kernel) rfl rfl rfl ?_
    have e9 := Option.some.inj h
    subst e9
    exact fhW.iret hΓ (by decide +kernel) hk
  · rw [if_neg hc] at h
    refine fhW.blk fhPF fhLL hΓ [(.iload_n 3, 0), (.iconst (-1), -1)] (pc' := 44) (lv' := [(0, .ref 56), (2, .int v2), (3, .int v3), (4, .int v4)]) (st' := [.int (-1 : Int32), .int v3]) (σ' := σ) (by decide +kernel) rfl rfl rfl ?_
    refine fhW.i_eq hΓ (tgt := 59) (show fhbk _ _ (.if_icmp .eq (15)) _ = true by decide +kernel) (fun hc => ?_) (fun hc => ?_)
    · rw [if_pos hc] at h
      refine fhW.sub (lv' := [(0, .ref 56), (2, .int v2), (3, .int v3), (4, .int v4)]) [0, 1, 2, 3] rfl ?_
      exact L_X4_fewestFacts_59 hE hΓ hd v2 v3 v4 σ _ h hk
    · rw [if_neg hc] at h
      refine fhW.blk fhPF fhLL hΓ [(.iload 4, 0)] (pc' := 49) (lv' := [(0, .ref 56), (2, .int v2), (3, .int v3), (4, .int v4)]) (st' := [.int v4]) (σ' := σ) (by decide +kernel) rfl rfl rfl ?_
      refine fhW.calls hΓ msJ6_bitCount_0f7a4 ml_4_117 (av := [.int v4]) (rest := []) (r := (some (.int (f_J6_bitCount_0f7a4 v4 σ)))) (σ' := σ) (T_J6_bitCount_0f7a4 (E := fhEn Γ) (d := fhD Γ - 1) hE (by omega) v4 σ) (by omega) (by decide +kernel) rfl (Nat.le_of_ble_eq_true rfl) rfl ?_
      show fhW fhYF Γ 52 [(0, .ref 56), (2, .int v2), (3, .int v3), (4, .int v4)] [.int (f_J6_bitCount_0f7a4 v4 σ)] σ
      refine fhW.blk fhPF fhLL hΓ [(.iload_n 3, 0)] (pc' := 53) (lv' := [(0, .ref 56), (2, .int v2), (3, .int v3), (4, .int v4)]) (st' := [.int v3, .int (f_J6_bitCount_0f7a4 v4 σ)]) (σ' := σ) (by decide +kernel) rfl rfl rfl ?_
      refine fhW.calls hΓ msJ6_bitCount_0f7a4 ml_4_117 (av := [.int v3]) (rest := [.int (f_J6_bitCount_0f7a4 v4 σ)]) (r := (some (.int (f_J6_bitCount_0f7a4 v3 σ)))) (σ' := σ) (T_J6_bitCount_0f7a4 (E := fhEn Γ) (d := fhD Γ - 1) hE (by omega) v3 σ) (by omega) (by decide +kernel) rfl (Nat.le_of_ble_eq_true rfl) rfl ?_
      show fhW fhYF Γ 56 [(0, .ref 56), (2, .int v2), (3, .int v3), (4, .int v4)] [.int (f_J6_bitCount_0f7a4 v3 σ), .int (f_J6_bitCount_0f7a4 v4 σ)] σ
      refine fhW.i_ge hΓ (tgt := 63) (show fhbk _ _ (.if_icmp .ge (7)) _ = true by decide +kernel) (fun hc => ?_) (fun hc => ?_)
      · rw [if_pos hc] at h
        refine fhW.blk fhPF fhLL hΓ [(.iconst 0, 0)] (pc' := 64) (lv' := [(0, .ref 56), (2, .int v2), (3, .int v3), (4, .int v4)]) (st' := [.int (0 : Int32)]) (σ' := σ) (by decide +kernel) rfl rfl rfl ?_
        refine fhW.sub (lv' := [(0, .ref 56), (2, .int v2), (3, .int v3), (4, .int v4)]) [0, 1, 2, 3] rfl ?_
        exact L_X4_fewestFacts_64 hE hΓ hd v2 v3 v4 (0 : Int32) σ _ h hk
      · rw [if_neg hc] at h
        refine fhW.sub (lv' := [(0, .ref 56), (2, .int v2), (3, .int v3), (4, .int v4)]) [0, 1, 2, 3] rfl ?_
        exact L_X4_fewestFacts_59 hE hΓ hd v2 v3 v4 σ _ h hk
set_option maxRecDepth 100000 in
set_option maxHeartbeats 4000000 in
theorem L_X4_fewestFacts_23 {Γ : fhX} (hE : fhEok fhYF (fhEn Γ)) (hΓ : fhOk fhYF 4 cX4_fewestFacts 6 (some .int) Γ) (hd : 4 ≤ fhD Γ) (v2 : Int32)  (σ : fhM) (o : Int32 × fhM) (h : f_X4_fewestFacts_23 v2 σ = some o) (hk : (fun o => fhRet Γ (some (.int o.1)) o.2) o) : fhW fhYF Γ 23 [(0, .ref 56), (2, .int v2)] [] σ := by
  unfold f_X4_fewestFacts_23 at h
  refine fhW.blk fhPF fhLL hΓ [(.iconst (-1), -1), (.istore_n 3, 0), (.iconst 0, 0), (.istore 4, 0)] (pc' := 28) (lv' := [(4, .int (0 : Int32)), (3, .int (-1 : Int32)), (0, .ref 56), (2, .int v2)]) (st' := []) (σ' := σ) (by decide +kernel) rfl rfl rfl ?_
  refine fhW.sub (lv' := [(0, .ref 56), (2, .int v2), (3, .int (-1 : Int32)), (4, .int (0 : Int32))]) [2, 3, 1, 0] rfl ?_
  exact fhlp_ok (W := (fun x => fhW fhYF Γ 28 [(0, .ref 56), (2, .int v2), (3, .int x.1), (4, .int x.2)] [] σ)) (B := (fun o => fhRet Γ (some (.int o.1)) o.2)) (fun x o h hk => L_X4_fewestFacts_28 hE hΓ hd v2 x.1 x.2 σ o h hk) ((-1 : Int32), (0 : Int32)) _ h hk
set_option maxRecDepth 100000 in
set_option maxHeartbeats 4000000 in
theorem L_X4_fewestFacts_E {Γ : fhX} (hE : fhEok fhYF (fhEn Γ)) (hΓ : fhOk fhYF 4 cX4_fewestFacts 6 (some .int) Γ) (hd : 4 ≤ fhD Γ) (v1 : Int32) (v2 : Int32)  (σ : fhM) (o : Int32 × fhM) (h : f_X4_fewestFacts v1 v2 σ = some o) (hk : (fun o => fhRet Γ (some (.int o.1)) o.2) o) : fhW fhYF Γ 0 [(0, .ref 56), (1, .int v1), (2, .int v2)] [] σ := by
  unfold f_X4_fewestFacts at h
  refine fhW.blk fhPF fhLL hΓ [(.aload_n 0, 0), (.iload_n 1, 0), (.aload_n 0, 0), (.getfield 30, 0)] (pc' := 6) (lv' := [(0, .ref 56), (1, .int v1), (2, .int v2)]) (st' := [.ref 68, .int v1, .ref 56]) (σ' := σ) (by decide +kernel) rfl rfl rfl ?_
  obtain ⟨q1, hb3, h⟩ := Option.bind_eq_some_iff.mp h
  refine fhW.callv hΓ mvX4_gatherDoubts ml_4_110 (t := 56) (ci := 4) (av := [.int v1, .ref 68]) (rest := []) (r := none) (σ' := q1) (T_X4_gatherDoubts (E := fhEn Γ) (d := fhD Γ - 1) hE (by omega) v1 68 rfl σ hb3) (by omega) (by decide +kernel) rfl rfl rfl (Nat.le_of_ble_eq_true rfl) rfl ?_
  show fhW fhYF Γ 9 [(0, .ref 56), (1, .int v1), (2, .int v2)] [] q1
  refine fhW.blk fhPF fhLL hΓ [(.iload_n 2, 0), (.iconst (-1), -1)] (pc' := 11) (lv' := [(0, .ref 56), (1, .int v1), (2, .int v2)]) (st' := [.int (-1 : Int32), .int v2]) (σ' := q1) (by decide +kernel) rfl rfl rfl ?_
  refine fhW.i_eq hΓ (tgt := 23) (show fhbk _ _ (.if_icmp .eq (12)) _ = true by decide +kernel) (fun hc => ?_) (fun hc => ?_)
  · rw [if_pos hc] at h
    refine fhW.sub (lv' := [(0, .ref 56), (2, .int v2)]) [0, 2] rfl ?_
    exact L_X4_fewestFacts_23 hE hΓ hd v2 q1 _ h hk
  · rw [if_neg hc] at h
    refine fhW.blk fhPF fhLL hΓ [(.aload_n 0, 0), (.iload_n 2, 0), (.aload_n 0, 0), (.getfield 33, 0)] (pc' := 20) (lv' := [(0, .ref 56), (1, .int v1), (2, .int v2)]) (st' := [.ref 70, .int v2, .ref 56]) (σ' := q1) (by decide +kernel) rfl rfl rfl ?_
    obtain ⟨q2, hb4, h⟩ := Option.bind_eq_some_iff.mp h
    refine fhW.callv hΓ mvX4_gatherDoubts ml_4_110 (t := 56) (ci := 4) (av := [.int v2, .ref 70]) (rest := []) (r := none) (σ' := q2) (T_X4_gatherDoubts (E := fhEn Γ) (d := fhD Γ - 1) hE (by omega) v2 70 rfl q1 hb4) (by omega) (by decide +kernel) rfl rfl rfl (Nat.le_of_ble_eq_true rfl) rfl ?_
    show fhW fhYF Γ 23 [(0, .ref 56), (1, .int v1), (2, .int v2)] [] q2
    refine fhW.sub (lv' := [(0, .ref 56), (2, .int v2)]) [0, 2] rfl ?_
    exact L_X4_fewestFacts_23 hE hΓ hd v2 q2 _ h hk
set_option maxRecDepth 100000 in
theorem T_X4_fewestFacts {E : fhE} {d : Nat} (hE : fhEok fhYF E) (hd : 4 ≤ d) (v1 : Int32) (v2 : Int32)  (σ : fhM) {o : Int32 × fhM} (h : f_X4_fewestFacts v1 v2 σ = some o) : fhC fhYF E d miX4_fewestFacts [.ref 56, .int v1, .int v2] σ (some (.int o.1)) o.2 := by
  refine fhC.of (y := yX4_fewestFacts) (cc := cX4_fewestFacts) (nL := 6) (ret := (some .int)) 4 rfl (by decide +kernel) (Nat.le_of_ble_eq_true rfl) ?_
  intro Γ hΓ hR hD hEn
  subst hD; subst hEn
  exact L_X4_fewestFacts_E hE hΓ hd v1 v2  σ _ h hR
set_option maxRecDepth 100000 in
set_option maxHeartbeats 4000000 in
theorem L_X11_hints_E {Γ : fhX} (hE : fhEok fhYF (fhEn Γ)) (hΓ : fhOk fhYF 11 cX11_hints 2 (some .int) Γ) (hd : 5 ≤ fhD Γ) (v1 : Int32)  (σ : fhM) (o : Int32 × fhM) (h : f_X11_hints v1 σ = some o) (hk : (fun o => fhRet Γ (some (.int o.1)) o.2) o) : fhW fhYF Γ 0 [(0, .ref 0), (1, .int v1)] [] σ := by
  unfold f_X11_hints at h
  refine fhW.blk fhPF fhLL hΓ [(.aload_n 0, 0), (.iload_n 1, 0)] (pc' := 2) (lv' := [(0, .ref 0), (1, .int v1)]) (st' := [.int v1, .ref 0]) (σ' := σ) (by decide +kernel) rfl rfl rfl ?_
  refine fhW.callv hΓ mvX11_isGuest ml_11_201 (t := 0) (ci := 11) (av := [.int v1]) (rest := []) (r := (some (.int (fhb (f_X11_isGuest v1 σ))))) (σ' := σ) (T_X11_isGuest (E := fhEn Γ) (d := fhD Γ - 1) hE (by omega) v1 σ) (by omega) (by decide +kernel) rfl rfl rfl (Nat.le_of_ble_eq_true rfl) rfl ?_
  show fhW fhYF Γ 5 [(0, .ref 0), (1, .int v1)] [.int (fhb (f_X11_isGuest v1 σ))] σ
  refine fhW.b_eq hΓ (tgt := 20) (show fhbk _ _ (.ifCond .eq (15)) _ = true by decide +kernel) (fun hc => ?_) (fun hc => ?_)
  · rw [if_neg hc] at h
    refine fhW.blk fhPF fhLL hΓ [(.iconst (-1), -1)] (pc' := 21) (lv' := [(0, .ref 0), (1, .int v1)]) (st' := [.int (-1 : Int32)]) (σ' := σ) (by decide +kernel) rfl rfl rfl ?_
    have e9 := Option.some.inj h
    subst e9
    exact fhW.iret hΓ (by decide +kernel) hk
  · rw [if_pos hc] at h
    refine fhW.blk fhPF fhLL hΓ [(.aload_n 0, 0), (.getfield 72, 0), (.iload_n 1, 0), (.iconst (-1), -1)] (pc' := 14) (lv' := [(0, .ref 0), (1, .int v1)]) (st' := [.int (-1 : Int32), .int v1, .ref 56]) (σ' := σ) (by decide +kernel) rfl rfl rfl ?_
    obtain ⟨q1, hb1, h⟩ := Option.bind_eq_some_iff.mp h
    refine fhW.callv hΓ mvX4_fewestFacts ml_11_276 (t := 56) (ci := 4) (av := [.int v1, .int (-1 : Int32)]) (rest := []) (r := (some (.int q1.1))) (σ' := q1.2) (T_X4_fewestFacts (E := fhEn Γ) (d := fhD Γ - 1) hE (by omega) v1 (-1 : Int32) σ hb1) (by omega) (by decide +kernel) rfl rfl rfl (Nat.le_of_ble_eq_true rfl) rfl ?_
    show fhW fhYF Γ 17 [(0, .ref 0), (1, .int v1)] [.int q1.1] q1.2
    refine fhW.goto hΓ (off := 4) (tgt := 21) (by decide +kernel) ?_
    have e9 := Option.some.inj h
    subst e9
    exact fhW.iret hΓ (by decide +kernel) hk
set_option maxRecDepth 100000 in
theorem T_X11_hints {E : fhE} {d : Nat} (hE : fhEok fhYF E) (hd : 5 ≤ d) (v1 : Int32)  (σ : fhM) {o : Int32 × fhM} (h : f_X11_hints v1 σ = some o) : fhC fhYF E d miX11_hints [.ref 0, .int v1] σ (some (.int o.1)) o.2 := by
  refine fhC.of (y := yX11_hints) (cc := cX11_hints) (nL := 2) (ret := (some .int)) 11 rfl (by decide +kernel) (Nat.le_of_ble_eq_true rfl) ?_
  intro Γ hΓ hR hD hEn
  subst hD; subst hEn
  exact L_X11_hints_E hE hΓ hd v1  σ _ h hR
set_option maxRecDepth 100000 in
set_option maxHeartbeats 4000000 in
theorem L_X11_secret_E {Γ : fhX} (hE : fhEok fhYF (fhEn Γ)) (hΓ : fhOk fhYF 11 cX11_secret 3 (some .int) Γ) (hd : 5 ≤ fhD Γ) (v1 : Int32) (v2 : Int32)  (σ : fhM) (o : Int32 × fhM) (h : f_X11_secret v1 v2 σ = some o) (hk : (fun o => fhRet Γ (some (.int o.1)) o.2) o) : fhW fhYF Γ 0 [(0, .ref 0), (1, .int v1), (2, .int v2)] [] σ := by
  unfold f_X11_secret at h
  refine fhW.blk fhPF fhLL hΓ [(.aload_n 0, 0), (.iload_n 1, 0), (.iload_n 2, 0)] (pc' := 3) (lv' := [(0, .ref 0), (1, .int v1), (2, .int v2)]) (st' := [.int v2, .int v1, .ref 0]) (σ' := σ) (by decide +kernel) rfl rfl rfl ?_
  refine fhW.callv hΓ mvX11_isPair ml_11_255 (t := 0) (ci := 11) (av := [.int v1, .int v2]) (rest := []) (r := (some (.int (fhb (f_X11_isPair v1 v2 σ))))) (σ' := σ) (T_X11_isPair (E := fhEn Γ) (d := fhD Γ - 1) hE (by omega) v1 v2 σ) (by omega) (by decide +kernel) rfl rfl rfl (Nat.le_of_ble_eq_true rfl) rfl ?_
  show fhW fhYF Γ 6 [(0, .ref 0), (1, .int v1), (2, .int v2)] [.int (fhb (f_X11_isPair v1 v2 σ))] σ
  refine fhW.b_eq hΓ (tgt := 21) (show fhbk _ _ (.ifCond .eq (15)) _ = true by decide +kernel) (fun hc => ?_) (fun hc => ?_)
  · rw [if_neg hc] at h
    refine fhW.blk fhPF fhLL hΓ [(.iconst (-1), -1)] (pc' := 22) (lv' := [(0, .ref 0), (1, .int v1), (2, .int v2)]) (st' := [.int (-1 : Int32)]) (σ' := σ) (by decide +kernel) rfl rfl rfl ?_
    have e9 := Option.some.inj h
    subst e9
    exact fhW.iret hΓ (by decide +kernel) hk
  · rw [if_pos hc] at h
    refine fhW.blk fhPF fhLL hΓ [(.aload_n 0, 0), (.getfield 72, 0), (.iload_n 1, 0), (.iload_n 2, 0)] (pc' := 15) (lv' := [(0, .ref 0), (1, .int v1), (2, .int v2)]) (st' := [.int v2, .int v1, .ref 56]) (σ' := σ) (by decide +kernel) rfl rfl rfl ?_
    obtain ⟨q1, hb1, h⟩ := Option.bind_eq_some_iff.mp h
    refine fhW.callv hΓ mvX4_fewestFacts ml_11_276 (t := 56) (ci := 4) (av := [.int v1, .int v2]) (rest := []) (r := (some (.int q1.1))) (σ' := q1.2) (T_X4_fewestFacts (E := fhEn Γ) (d := fhD Γ - 1) hE (by omega) v1 v2 σ hb1) (by omega) (by decide +kernel) rfl rfl rfl (Nat.le_of_ble_eq_true rfl) rfl ?_
    show fhW fhYF Γ 18 [(0, .ref 0), (1, .int v1), (2, .int v2)] [.int q1.1] q1.2
    refine fhW.goto hΓ (off := 4) (tgt := 22) (by decide +kernel) ?_
    have e9 := Option.some.inj h
    subst e9
    exact fhW.iret hΓ (by decide +kernel) hk
set_option maxRecDepth 100000 in
theorem T_X11_secret {E : fhE} {d : Nat} (hE : fhEok fhYF E) (hd : 5 ≤ d) (v1 : Int32) (v2 : Int32)  (σ : fhM) {o : Int32 × fhM} (h : f_X11_secret v1 v2 σ = some o) : fhC fhYF E d miX11_secret [.ref 0, .int v1, .int v2] σ (some (.int o.1)) o.2 := by
  refine fhC.of (y := yX11_secret) (cc := cX11_secret) (nL := 3) (ret := (some .int)) 11 rfl (by decide +kernel) (Nat.le_of_ble_eq_true rfl) ?_
  intro Γ hΓ hR hD hEn
  subst hD; subst hEn
  exact L_X11_secret_E hE hΓ hd v1 v2  σ _ h hR
set_option maxRecDepth 100000 in
set_option maxHeartbeats 4000000 in
theorem L_X4_bestSpeaker_46 {Γ : fhX} (hE : fhEok fhYF (fhEn Γ)) (hΓ : fhOk fhYF 4 cX4_bestSpeaker 5 (some .int) Γ) (hd : 2 ≤ fhD Γ) (v1 : Int32) (v2 : Int32) (v3 : Int32)  (σ : fhM) (o : (Int32 × Int32 × Int32) ⊕ (Int32)) (h : f_X4_bestSpeaker_46 v1 v2 v3 σ = some o) (hk : (fhK (fun x => fhW fhYF Γ 6 [(0, .ref 56), (1, .int x.1), (2, .int x.2.1), (3, .int x.2.2)] [] σ) (fun o => fhRet Γ (some (.int o)) σ)) o) : fhW fhYF Γ 46 [(0, .ref 56), (1, .int v1), (2, .int v2), (3, .int v3)] [] σ := by
  unfold f_X4_bestSpeaker_46 at h
  refine fhW.blk fhPF fhLL hΓ [(.iinc 3 1, 1)] (pc' := 49) (lv' := [(3, .int (v3 + (1 : Int32))), (0, .ref 56), (1, .int v1), (2, .int v2)]) (st' := []) (σ' := σ) (by decide +kernel) rfl rfl rfl ?_
  refine fhW.goto hΓ (off := (-43)) (tgt := 6) (by decide +kernel) ?_
  refine fhW.sub (lv' := [(0, .ref 56), (1, .int v1), (2, .int v2), (3, .int (v3 + (1 : Int32)))]) [1, 2, 3, 0] rfl ?_
  have e9 := Option.some.inj h
  subst e9
  exact hk
set_option maxRecDepth 100000 in
set_option maxHeartbeats 4000000 in
theorem L_X4_bestSpeaker_41 {Γ : fhX} (hE : fhEok fhYF (fhEn Γ)) (hΓ : fhOk fhYF 4 cX4_bestSpeaker 5 (some .int) Γ) (hd : 2 ≤ fhD Γ) (v3 : Int32) (v4 : Int32)  (σ : fhM) (o : (Int32 × Int32 × Int32) ⊕ (Int32)) (h : f_X4_bestSpeaker_41 v3 v4 σ = some o) (hk : (fhK (fun x => fhW fhYF Γ 6 [(0, .ref 56), (1, .int x.1), (2, .int x.2.1), (3, .int x.2.2)] [] σ) (fun o => fhRet Γ (some (.int o)) σ)) o) : fhW fhYF Γ 41 [(0, .ref 56), (3, .int v3), (4, .int v4)] [] σ := by
  unfold f_X4_bestSpeaker_41 at h
  refine fhW.blk fhPF fhLL hΓ [(.iload_n 3, 0), (.istore_n 1, 0), (.iload 4, 0), (.istore_n 2, 0)] (pc' := 46) (lv' := [(2, .int v4), (1, .int v3), (0, .ref 56), (3, .int v3), (4, .int v4)]) (st' := []) (σ' := σ) (by decide +kernel) rfl rfl rfl ?_
  refine fhW.sub (lv' := [(0, .ref 56), (1, .int v3), (2, .int v4), (3, .int v3)]) [2, 1, 0, 3] rfl ?_
  exact L_X4_bestSpeaker_46 hE hΓ hd v3 v4 v3 σ _ h hk
set_option maxRecDepth 100000 in
set_option maxHeartbeats 4000000 in
theorem L_X4_bestSpeaker_6 {Γ : fhX} (hE : fhEok fhYF (fhEn Γ)) (hΓ : fhOk fhYF 4 cX4_bestSpeaker 5 (some .int) Γ) (hd : 2 ≤ fhD Γ) (v1 : Int32) (v2 : Int32) (v3 : Int32)  (σ : fhM) (o : (Int32 × Int32 × Int32) ⊕ (Int32)) (h : f_X4_bestSpeaker_6 v1 v2 v3 σ = some o) (hk : (fhK (fun x => fhW fhYF Γ 6 [(0, .ref 56), (1, .int x.1), (2, .int x.2.1), (3, .int x.2.2)] [] σ) (fun o => fhRet Γ (some (.int o)) σ)) o) : fhW fhYF Γ 6 [(0, .ref 56), (1, .int v1), (2, .int v2), (3, .int v3)] [] σ := by
  unfold f_X4_bestSpeaker_6 at h
  refine fhW.blk fhPF fhLL hΓ [(.iload_n 3, 0), (.aload_n 0, 0), (.getfield 42, 0), (.getfield 97, 0)] (pc' := 14) (lv' := [(0, .ref 56), (1, .int v1), (2, .int v2), (3, .int v3)]) (st' := [.int (σ.1 39 9), .int v3]) (σ' := σ) (by decide +kernel) rfl rfl rfl ?_
  refine fhW.i_ge hΓ (tgt := 52) (show fhbk _ _ (.if_icmp .ge (38)) _ = true by decide +kernel) (fun hc => ?_) (fun hc => ?_)
  · rw [if_pos hc] at h
    refine fhW.blk fhPF fhLL hΓ [(.iload_n 1, 0)] (pc' := 53) (lv' := [(0, .ref 56), (1, .int v1), (2, .int v2), (3, .int v3)]) (st' := [.int v1]) (σ' := σ) (by decide +kernel) rfl rfl rfl ?_
    have e9 := Option.some.inj h
    subst e9
    exact fhW.iret hΓ (by decide +kernel) hk
  · rw [if_neg hc] at h
    refine fhW.blk fhPF fhLL hΓ [(.aload_n 0, 0), (.aload_n 0, 0), (.getfield 39, 0), (.iconst 1, 1), (.iload_n 3, 0), (.ishl, 0)] (pc' := 25) (lv' := [(0, .ref 56), (1, .int v1), (2, .int v2), (3, .int v3)]) (st' := [.int ((1 : Int32) <<< (v3 &&& 31)), .ref 74, .ref 56]) (σ' := σ) (by decide +kernel) rfl rfl rfl ?_
    obtain ⟨q1, hb1, h⟩ := Option.bind_eq_some_iff.mp h
    refine fhW.callv hΓ mvX4_countAlike ml_4_132 (t := 56) (ci := 4) (av := [.ref 74, .int ((1 : Int32) <<< (v3 &&& 31))]) (rest := []) (r := (some (.int q1))) (σ' := σ) (T_X4_countAlike (E := fhEn Γ) (d := fhD Γ - 1) hE (by omega) 74 ((1 : Int32) <<< (v3 &&& 31)) rfl σ hb1) (by omega) (by decide +kernel) rfl rfl rfl (Nat.le_of_ble_eq_true rfl) rfl ?_
    show fhW fhYF Γ 28 [(0, .ref 56), (1, .int v1), (2, .int v2), (3, .int v3)] [.int q1] σ
    refine fhW.blk fhPF fhLL hΓ [(.istore 4, 0), (.iload_n 1, 0), (.iconst (-1), -1)] (pc' := 32) (lv' := [(4, .int q1), (0, .ref 56), (1, .int v1), (2, .int v2), (3, .int v3)]) (st' := [.int (-1 : Int32), .int v1]) (σ' := σ) (by decide +kernel) rfl rfl rfl ?_
    refine fhW.i_eq hΓ (tgt := 41) (show fhbk _ _ (.if_icmp .eq (9)) _ = true by decide +kernel) (fun hc => ?_) (fun hc => ?_)
    · rw [if_pos hc] at h
      refine fhW.sub (lv' := [(0, .ref 56), (3, .int v3), (4, .int q1)]) [1, 4, 0] rfl ?_
      exact L_X4_bestSpeaker_41 hE hΓ hd v3 q1 σ _ h hk
    · rw [if_neg hc] at h
      refine fhW.blk fhPF fhLL hΓ [(.iload 4, 0), (.iload_n 2, 0)] (pc' := 38) (lv' := [(4, .int q1), (0, .ref 56), (1, .int v1), (2, .int v2), (3, .int v3)]) (st' := [.int v2, .int q1]) (σ' := σ) (by decide +kernel) rfl rfl rfl ?_
      refine fhW.i_ge hΓ (tgt := 46) (show fhbk _ _ (.if_icmp .ge (8)) _ = true by decide +kernel) (fun hc => ?_) (fun hc => ?_)
      · rw [if_pos hc] at h
        refine fhW.sub (lv' := [(0, .ref 56), (1, .int v1), (2, .int v2), (3, .int v3)]) [1, 2, 3, 4] rfl ?_
        exact L_X4_bestSpeaker_46 hE hΓ hd v1 v2 v3 σ _ h hk
      · rw [if_neg hc] at h
        refine fhW.sub (lv' := [(0, .ref 56), (3, .int v3), (4, .int q1)]) [1, 4, 0] rfl ?_
        exact L_X4_bestSpeaker_41 hE hΓ hd v3 q1 σ _ h hk
set_option maxRecDepth 100000 in
set_option maxHeartbeats 4000000 in
theorem L_X4_bestSpeaker_E {Γ : fhX} (hE : fhEok fhYF (fhEn Γ)) (hΓ : fhOk fhYF 4 cX4_bestSpeaker 5 (some .int) Γ) (hd : 2 ≤ fhD Γ)   (σ : fhM) (o : Int32) (h : f_X4_bestSpeaker σ = some o) (hk : (fun o => fhRet Γ (some (.int o)) σ) o) : fhW fhYF Γ 0 [(0, .ref 56)] [] σ := by
  unfold f_X4_bestSpeaker at h
  refine fhW.blk fhPF fhLL hΓ [(.iconst (-1), -1), (.istore_n 1, 0), (.iconst 0, 0), (.istore_n 2, 0), (.iconst 0, 0), (.istore_n 3, 0)] (pc' := 6) (lv' := [(3, .int (0 : Int32)), (2, .int (0 : Int32)), (1, .int (-1 : Int32)), (0, .ref 56)]) (st' := []) (σ' := σ) (by decide +kernel) rfl rfl rfl ?_
  refine fhW.sub (lv' := [(0, .ref 56), (1, .int (-1 : Int32)), (2, .int (0 : Int32)), (3, .int (0 : Int32))]) [3, 2, 1, 0] rfl ?_
  exact fhlp_ok (W := (fun x => fhW fhYF Γ 6 [(0, .ref 56), (1, .int x.1), (2, .int x.2.1), (3, .int x.2.2)] [] σ)) (B := (fun o => fhRet Γ (some (.int o)) σ)) (fun x o h hk => L_X4_bestSpeaker_6 hE hΓ hd x.1 x.2.1 x.2.2 σ o h hk) ((-1 : Int32), (0 : Int32), (0 : Int32)) _ h hk
set_option maxRecDepth 100000 in
theorem T_X4_bestSpeaker {E : fhE} {d : Nat} (hE : fhEok fhYF E) (hd : 2 ≤ d)   (σ : fhM) {o : Int32} (h : f_X4_bestSpeaker σ = some o) : fhC fhYF E d miX4_bestSpeaker [.ref 56] σ (some (.int o)) σ := by
  refine fhC.of (y := yX4_bestSpeaker) (cc := cX4_bestSpeaker) (nL := 5) (ret := (some .int)) 4 rfl (by decide +kernel) (Nat.le_of_ble_eq_true rfl) ?_
  intro Γ hΓ hR hD hEn
  subst hD; subst hEn
  exact L_X4_bestSpeaker_E hE hΓ hd   σ _ h hR
set_option maxRecDepth 100000 in
set_option maxHeartbeats 4000000 in
theorem L_X11_speaker_E {Γ : fhX} (hE : fhEok fhYF (fhEn Γ)) (hΓ : fhOk fhYF 11 cX11_speaker 3 (some .int) Γ) (hd : 3 ≤ fhD Γ) (v1 : Int32)  (σ : fhM) (o : Int32) (h : f_X11_speaker v1 σ = some o) (hk : (fun o => fhRet Γ (some (.int o)) σ) o) : fhW fhYF Γ 0 [(0, .ref 0), (1, .int v1)] [] σ := by
  unfold f_X11_speaker at h
  refine fhW.blk fhPF fhLL hΓ [(.aload_n 0, 0), (.getfield 72, 0)] (pc' := 4) (lv' := [(0, .ref 0), (1, .int v1)]) (st' := [.ref 56]) (σ' := σ) (by decide +kernel) rfl rfl rfl ?_
  obtain ⟨q1, hb1, h⟩ := Option.bind_eq_some_iff.mp h
  refine fhW.callv hΓ mvX4_bestSpeaker ml_11_279 (t := 56) (ci := 4) (av := []) (rest := []) (r := (some (.int q1))) (σ' := σ) (T_X4_bestSpeaker (E := fhEn Γ) (d := fhD Γ - 1) hE (by omega) σ hb1) (by omega) (by decide +kernel) rfl rfl rfl (Nat.le_of_ble_eq_true rfl) rfl ?_
  show fhW fhYF Γ 7 [(0, .ref 0), (1, .int v1)] [.int q1] σ
  refine fhW.blk fhPF fhLL hΓ [(.istore_n 2, 0), (.iload_n 2, 0), (.iconst (-1), -1)] (pc' := 10) (lv' := [(2, .int q1), (0, .ref 0), (1, .int v1)]) (st' := [.int (-1 : Int32), .int q1]) (σ' := σ) (by decide +kernel) rfl rfl rfl ?_
  refine fhW.i_eq hΓ (tgt := 22) (show fhbk _ _ (.if_icmp .eq (12)) _ = true by decide +kernel) (fun hc => ?_) (fun hc => ?_)
  · rw [if_pos hc] at h
    refine fhW.blk fhPF fhLL hΓ [(.iconst (-1), -1)] (pc' := 23) (lv' := [(2, .int q1), (0, .ref 0), (1, .int v1)]) (st' := [.int (-1 : Int32)]) (σ' := σ) (by decide +kernel) rfl rfl rfl ?_
    have e9 := Option.some.inj h
    subst e9
    exact fhW.iret hΓ (by decide +kernel) hk
  · rw [if_neg hc] at h
    refine fhW.blk fhPF fhLL hΓ [(.iload_n 1, 0)] (pc' := 14) (lv' := [(2, .int q1), (0, .ref 0), (1, .int v1)]) (st' := [.int v1]) (σ' := σ) (by decide +kernel) rfl rfl rfl ?_
    refine fhW.z_lt hΓ (tgt := 22) (show fhbk _ _ (.ifCond .lt (8)) _ = true by decide +kernel) (fun hc => ?_) (fun hc => ?_)
    · rw [if_pos hc] at h
      refine fhW.blk fhPF fhLL hΓ [(.iconst (-1), -1)] (pc' := 23) (lv' := [(2, .int q1), (0, .ref 0), (1, .int v1)]) (st' := [.int (-1 : Int32)]) (σ' := σ) (by decide +kernel) rfl rfl rfl ?_
      have e9 := Option.some.inj h
      subst e9
      exact fhW.iret hΓ (by decide +kernel) hk
    · rw [if_neg hc] at h
      refine fhW.blk fhPF fhLL hΓ [(.iload_n 1, 0), (.iconst 1, 1)] (pc' := 19) (lv' := [(2, .int q1), (0, .ref 0), (1, .int v1)]) (st' := [.int (1 : Int32), .int v1]) (σ' := σ) (by decide +kernel) rfl rfl rfl ?_
      refine fhW.i_le hΓ (tgt := 24) (show fhbk _ _ (.if_icmp .le (5)) _ = true by decide +kernel) (fun hc => ?_) (fun hc => ?_)
      · rw [if_pos hc] at h
        refine fhW.blk fhPF fhLL hΓ [(.iload_n 1, 0)] (pc' := 25) (lv' := [(2, .int q1), (0, .ref 0), (1, .int v1)]) (st' := [.int v1]) (σ' := σ) (by decide +kernel) rfl rfl rfl ?_
        refine fhW.z_ne hΓ (tgt := 32) (show fhbk _ _ (.ifCond .ne (7)) _ = true by decide +kernel) (fun hc => ?_) (fun hc => ?_)
        · rw [if_neg hc] at h
          refine fhW.blk fhPF fhLL hΓ [(.aload_n 0, 0), (.getfield 72, 0), (.aload_n 0, 0), (.getfield 72, 0), (.getfield 282, 0), (.iconst 1, 1), (.iload_n 2, 0), (.ishl, 0)] (pc' := 46) (lv' := [(2, .int q1), (0, .ref 0), (1, .int v1)]) (st' := [.int ((1 : Int32) <<< (q1 &&& 31)), .ref 74, .ref 56]) (σ' := σ) (by decide +kernel) rfl rfl rfl ?_
          obtain ⟨q2, hb2, h⟩ := Option.bind_eq_some_iff.mp h
          refine fhW.callv hΓ mvX4_countAlike ml_11_239 (t := 56) (ci := 4) (av := [.ref 74, .int ((1 : Int32) <<< (q1 &&& 31))]) (rest := []) (r := (some (.int q2))) (σ' := σ) (T_X4_countAlike (E := fhEn Γ) (d := fhD Γ - 1) hE (by omega) 74 ((1 : Int32) <<< (q1 &&& 31)) rfl σ hb2) (by omega) (by decide +kernel) rfl rfl rfl (Nat.le_of_ble_eq_true rfl) rfl ?_
          show fhW fhYF Γ 49 [(2, .int q1), (0, .ref 0), (1, .int v1)] [.int q2] σ
          have e9 := Option.some.inj h
          subst e9
          exact fhW.iret hΓ (by decide +kernel) hk
        · rw [if_pos hc] at h
          refine fhW.blk fhPF fhLL hΓ [(.iload_n 2, 0)] (pc' := 29) (lv' := [(2, .int q1), (0, .ref 0), (1, .int v1)]) (st' := [.int q1]) (σ' := σ) (by decide +kernel) rfl rfl rfl ?_
          refine fhW.goto hΓ (off := 20) (tgt := 49) (by decide +kernel) ?_
          have e9 := Option.some.inj h
          subst e9
          exact fhW.iret hΓ (by decide +kernel) hk
      · rw [if_neg hc] at h
        refine fhW.blk fhPF fhLL hΓ [(.iconst (-1), -1)] (pc' := 23) (lv' := [(2, .int q1), (0, .ref 0), (1, .int v1)]) (st' := [.int (-1 : Int32)]) (σ' := σ) (by decide +kernel) rfl rfl rfl ?_
        have e9 := Option.some.inj h
        subst e9
        exact fhW.iret hΓ (by decide +kernel) hk
set_option maxRecDepth 100000 in
theorem T_X11_speaker {E : fhE} {d : Nat} (hE : fhEok fhYF E) (hd : 3 ≤ d) (v1 : Int32)  (σ : fhM) {o : Int32} (h : f_X11_speaker v1 σ = some o) : fhC fhYF E d miX11_speaker [.ref 0, .int v1] σ (some (.int o)) σ := by
  refine fhC.of (y := yX11_speaker) (cc := cX11_speaker) (nL := 3) (ret := (some .int)) 11 rfl (by decide +kernel) (Nat.le_of_ble_eq_true rfl) ?_
  intro Γ hΓ hR hD hEn
  subst hD; subst hEn
  exact L_X11_speaker_E hE hΓ hd v1  σ _ h hR
set_option maxRecDepth 100000 in
set_option maxHeartbeats 4000000 in
theorem L_X1_start_40 {Γ : fhX} (hE : fhEok fhYF (fhEn Γ)) (hΓ : fhOk fhYF 1 cX1_start 2 none Γ) (hd : 1 ≤ fhD Γ) (v1 : Int32)  (σ : fhM) (o : (Int32 × fhM) ⊕ (fhM)) (h : f_X1_start_40 v1 σ = some o) (hk : (fhK (fun x => fhW fhYF Γ 40 [(0, .ref 76), (1, .int x.1)] [] x.2) (fun o => fhRet Γ none o)) o) : fhW fhYF Γ 40 [(0, .ref 76), (1, .int v1)] [] σ := by
  unfold f_X1_start_40 at h
  refine fhW.blk fhPF fhLL hΓ [(.iload_n 1, 0), (.sipush 5120, 5120)] (pc' := 44) (lv' := [(0, .ref 76), (1, .int v1)]) (st' := [.int (5120 : Int32), .int v1]) (σ' := σ) (by decide +kernel) rfl rfl rfl ?_
  refine fhW.i_ge hΓ (tgt := 63) (show fhbk _ _ (.if_icmp .ge (19)) _ = true by decide +kernel) (fun hc => ?_) (fun hc => ?_)
  · rw [if_pos hc] at h
    refine fhW.blk fhPF fhLL hΓ [(.aload_n 0, 0), (.iconst 1, 1), (.putfield 56, 0), (.aload_n 0, 0), (.getfield 23, 0), (.iconst 0, 0), (.iconst 0, 0)] (pc' := 74) (lv' := [(0, .ref 76), (1, .int v1)]) (st' := [.int (0 : Int32), .int (0 : Int32), .ref (σ.2.2 76 3)]) (σ' := (fhI σ 76 5 (1 : Int32))) (by decide +kernel) rfl rfl rfl ?_
    obtain ⟨hy1, h⟩ := fhif h
    refine fhW.callv hΓ mvX2_put ml_1_74 (t := (σ.2.2 76 3)) (ci := 2) (av := [.int (0 : Int32), .int (0 : Int32)]) (rest := []) (r := none) (σ' := (fcP (fhI σ 76 5 (1 : Int32)) (σ.2.2 76 3) (0 : Int32) (0 : Int32))) (T_X2_put (E := fhEn Γ) (d := fhD Γ - 1) hE (by omega) (σ.2.2 76 3) (0 : Int32) (0 : Int32) hy1 (fhI σ 76 5 (1 : Int32))) (by omega) (by decide +kernel) rfl (fhiC_g hy1) rfl (Nat.le_of_ble_eq_true rfl) rfl ?_
    show fhW fhYF Γ 77 [(0, .ref 76), (1, .int v1)] [] (fcP (fhI σ 76 5 (1 : Int32)) (σ.2.2 76 3) (0 : Int32) (0 : Int32))
    refine fhW.blk fhPF fhLL hΓ [(.aload_n 0, 0), (.getfield 23, 0), (.iconst 1, 1), (.aload_n 0, 0), (.getfield 41, 0), (.getfield 62, 0)] (pc' := 89) (lv' := [(0, .ref 76), (1, .int v1)]) (st' := [.int ((fcP (fhI σ 76 5 (1 : Int32)) (σ.2.2 76 3) (0 : Int32) (0 : Int32)).1 39 12), .int (1 : Int32), .ref (σ.2.2 76 3)]) (σ' := (fcP (fhI σ 76 5 (1 : Int32)) (σ.2.2 76 3) (0 : Int32) (0 : Int32))) (by decide +kernel) rfl rfl rfl ?_
    refine fhW.callv hΓ mvX2_put ml_1_74 (t := (σ.2.2 76 3)) (ci := 2) (av := [.int (1 : Int32), .int ((fcP (fhI σ 76 5 (1 : Int32)) (σ.2.2 76 3) (0 : Int32) (0 : Int32)).1 39 12)]) (rest := []) (r := none) (σ' := (fcP (fcP (fhI σ 76 5 (1 : Int32)) (σ.2.2 76 3) (0 : Int32) (0 : Int32)) (σ.2.2 76 3) (1 : Int32) ((fcP (fhI σ 76 5 (1 : Int32)) (σ.2.2 76 3) (0 : Int32) (0 : Int32)).1 39 12))) (T_X2_put (E := fhEn Γ) (d := fhD Γ - 1) hE (by omega) (σ.2.2 76 3) (1 : Int32) ((fcP (fhI σ 76 5 (1 : Int32)) (σ.2.2 76 3) (0 : Int32) (0 : Int32)).1 39 12) hy1 (fcP (fhI σ 76 5 (1 : Int32)) (σ.2.2 76 3) (0 : Int32) (0 : Int32))) (by omega) (by decide +kernel) rfl (fhiC_g hy1) rfl (Nat.le_of_ble_eq_true rfl) rfl ?_
    show fhW fhYF Γ 92 [(0, .ref 76), (1, .int v1)] [] (fcP (fcP (fhI σ 76 5 (1 : Int32)) (σ.2.2 76 3) (0 : Int32) (0 : Int32)) (σ.2.2 76 3) (1 : Int32) ((fcP (fhI σ 76 5 (1 : Int32)) (σ.2.2 76 3) (0 : Int32) (0 : Int32)).1 39 12))
    have e9 := Option.some.inj h
    subst e9
    exact fhW.vret hΓ (by decide +kernel) hk
  · rw [if_neg hc] at h
    refine fhW.blk fhPF fhLL hΓ [(.aload_n 0, 0), (.getfield 32, 0), (.iload_n 1, 0), (.bipush 99, 99)] (pc' := 54) (lv' := [(0, .ref 76), (1, .int v1)]) (st' := [.int (99 : Int32), .int v1, .ref 87]) (σ' := σ) (by decide +kernel) rfl rfl rfl ?_
    refine fhW.callv hΓ mvX2_put ml_1_74 (t := 87) (ci := 2) (av := [.int v1, .int (99 : Int32)]) (rest := []) (r := none) (σ' := (fcP σ 87 v1 (99 : Int32))) (T_X2_put (E := fhEn Γ) (d := fhD Γ - 1) hE (by omega) 87 v1 (99 : Int32) rfl σ) (by omega) (by decide +kernel) rfl rfl rfl (Nat.le_of_ble_eq_true rfl) rfl ?_
    show fhW fhYF Γ 57 [(0, .ref 76), (1, .int v1)] [] (fcP σ 87 v1 (99 : Int32))
    refine fhW.blk fhPF fhLL hΓ [(.iinc 1 1, 1)] (pc' := 60) (lv' := [(1, .int (v1 + (1 : Int32))), (0, .ref 76)]) (st' := []) (σ' := (fcP σ 87 v1 (99 : Int32))) (by decide +kernel) rfl rfl rfl ?_
    refine fhW.goto hΓ (off := (-20)) (tgt := 40) (by decide +kernel) ?_
    refine fhW.sub (lv' := [(0, .ref 76), (1, .int (v1 + (1 : Int32)))]) [1, 0] rfl ?_
    have e9 := Option.some.inj h
    subst e9
    exact hk
set_option maxRecDepth 100000 in
set_option maxHeartbeats 4000000 in
theorem L_X1_start_2 {Γ : fhX} (hE : fhEok fhYF (fhEn Γ)) (hΓ : fhOk fhYF 1 cX1_start 2 none Γ) (hd : 1 ≤ fhD Γ) (v1 : Int32)  (σ : fhM) (o : (Int32 × fhM) ⊕ (fhM)) (h : f_X1_start_2 v1 σ = some o) (hk : (fhK (fun x => fhW fhYF Γ 2 [(0, .ref 76), (1, .int x.1)] [] x.2) (fun o => fhRet Γ none o)) o) : fhW fhYF Γ 2 [(0, .ref 76), (1, .int v1)] [] σ := by
  unfold f_X1_start_2 at h
  refine fhW.blk fhPF fhLL hΓ [(.iload_n 1, 0), (.aload_n 0, 0), (.getfield 41, 0), (.getfield 62, 0)] (pc' := 10) (lv' := [(0, .ref 76), (1, .int v1)]) (st' := [.int (σ.1 39 12), .int v1]) (σ' := σ) (by decide +kernel) rfl rfl rfl ?_
  refine fhW.i_ge hΓ (tgt := 38) (show fhbk _ _ (.if_icmp .ge (28)) _ = true by decide +kernel) (fun hc => ?_) (fun hc => ?_)
  · rw [if_pos hc] at h
    refine fhW.blk fhPF fhLL hΓ [(.iconst 0, 0), (.istore_n 1, 0)] (pc' := 40) (lv' := [(1, .int (0 : Int32)), (0, .ref 76)]) (st' := []) (σ' := σ) (by decide +kernel) rfl rfl rfl ?_
    refine fhW.sub (lv' := [(0, .ref 76), (1, .int (0 : Int32))]) [1, 0] rfl ?_
    obtain ⟨z1, hz, e1⟩ := Option.map_eq_some_iff.mp h
    clear h
    subst e1
    have h := hz
    have hk : (fun o => fhRet Γ none o) z1 := hk
    exact fhlp_ok (W := (fun x => fhW fhYF Γ 40 [(0, .ref 76), (1, .int x.1)] [] x.2)) (B := (fun o => fhRet Γ none o)) (fun x o h hk => L_X1_start_40 hE hΓ hd x.1 x.2 o h hk) ((0 : Int32), σ) _ h hk
  · rw [if_neg hc] at h
    refine fhW.blk fhPF fhLL hΓ [(.aload_n 0, 0), (.getfield 14, 0), (.iload_n 1, 0), (.aload_n 0, 0), (.getfield 41, 0), (.getfield 67, 0), (.iload_n 1, 0)] (pc' := 26) (lv' := [(0, .ref 76), (1, .int v1)]) (st' := [.int v1, .ref 54, .int v1, .ref (σ.2.2 76 1)]) (σ' := σ) (by decide +kernel) rfl rfl rfl ?_
    refine fhW.callv hΓ mvX2_get ml_1_70 (t := 54) (ci := 2) (av := [.int v1]) (rest := [.int v1, .ref (σ.2.2 76 1)]) (r := (some (.int (fcG σ 54 v1)))) (σ' := σ) (T_X2_get (E := fhEn Γ) (d := fhD Γ - 1) hE (by omega) 54 v1 rfl σ) (by omega) (by decide +kernel) rfl rfl rfl (Nat.le_of_ble_eq_true rfl) rfl ?_
    show fhW fhYF Γ 29 [(0, .ref 76), (1, .int v1)] [.int (fcG σ 54 v1), .int v1, .ref (σ.2.2 76 1)] σ
    obtain ⟨hy2, h⟩ := fhif h
    refine fhW.callv hΓ mvX2_put ml_1_74 (t := (σ.2.2 76 1)) (ci := 2) (av := [.int v1, .int (fcG σ 54 v1)]) (rest := []) (r := none) (σ' := (fcP σ (σ.2.2 76 1) v1 (fcG σ 54 v1))) (T_X2_put (E := fhEn Γ) (d := fhD Γ - 1) hE (by omega) (σ.2.2 76 1) v1 (fcG σ 54 v1) hy2 σ) (by omega) (by decide +kernel) rfl (fhiC_g hy2) rfl (Nat.le_of_ble_eq_true rfl) rfl ?_
    show fhW fhYF Γ 32 [(0, .ref 76), (1, .int v1)] [] (fcP σ (σ.2.2 76 1) v1 (fcG σ 54 v1))
    refine fhW.blk fhPF fhLL hΓ [(.iinc 1 1, 1)] (pc' := 35) (lv' := [(1, .int (v1 + (1 : Int32))), (0, .ref 76)]) (st' := []) (σ' := (fcP σ (σ.2.2 76 1) v1 (fcG σ 54 v1))) (by decide +kernel) rfl rfl rfl ?_
    refine fhW.goto hΓ (off := (-33)) (tgt := 2) (by decide +kernel) ?_
    refine fhW.sub (lv' := [(0, .ref 76), (1, .int (v1 + (1 : Int32)))]) [1, 0] rfl ?_
    have e9 := Option.some.inj h
    subst e9
    exact hk
set_option maxRecDepth 100000 in
set_option maxHeartbeats 4000000 in
theorem L_X1_start_E {Γ : fhX} (hE : fhEok fhYF (fhEn Γ)) (hΓ : fhOk fhYF 1 cX1_start 2 none Γ) (hd : 1 ≤ fhD Γ)   (σ : fhM) (o : fhM) (h : f_X1_start σ = some o) (hk : (fun o => fhRet Γ none o) o) : fhW fhYF Γ 0 [(0, .ref 76)] [] σ := by
  unfold f_X1_start at h
  refine fhW.blk fhPF fhLL hΓ [(.iconst 0, 0), (.istore_n 1, 0)] (pc' := 2) (lv' := [(1, .int (0 : Int32)), (0, .ref 76)]) (st' := []) (σ' := σ) (by decide +kernel) rfl rfl rfl ?_
  refine fhW.sub (lv' := [(0, .ref 76), (1, .int (0 : Int32))]) [1, 0] rfl ?_
  exact fhlp_ok (W := (fun x => fhW fhYF Γ 2 [(0, .ref 76), (1, .int x.1)] [] x.2)) (B := (fun o => fhRet Γ none o)) (fun x o h hk => L_X1_start_2 hE hΓ hd x.1 x.2 o h hk) ((0 : Int32), σ) _ h hk
set_option maxRecDepth 100000 in
theorem T_X1_start {E : fhE} {d : Nat} (hE : fhEok fhYF E) (hd : 1 ≤ d)   (σ : fhM) {o : fhM} (h : f_X1_start σ = some o) : fhC fhYF E d miX1_start [.ref 76] σ none o := by
  refine fhC.of (y := yX1_start) (cc := cX1_start) (nL := 2) (ret := none) 1 rfl (by decide +kernel) (Nat.le_of_ble_eq_true rfl) ?_
  intro Γ hΓ hR hD hEn
  subst hD; subst hEn
  exact L_X1_start_E hE hΓ hd   σ _ h hR

