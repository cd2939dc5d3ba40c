set_option maxRecDepth 100000 in
set_option maxHeartbeats 4000000 in
theorem L_X11_noteFault_33 {Γ : fhX} (hE : fhEok fhYF (fhEn Γ)) (hΓ : fhOk fhYF 11 cX11_noteFault 1 none Γ) (hd : 0 ≤ fhD Γ) (s0 : Int32)  (σ : fhM) (o : fhM) (h : f_X11_noteFault_33 s0 σ = o) (hk : (fun o => fhRet Γ none o) o) : fhW fhYF Γ 33 [] [.int s0, .ref 0] σ := by
  unfold f_X11_noteFault_33 at h
  refine fhW.blk fhPF fhLL hΓ [(.putfield 100, 0)] (pc' := 36) (lv' := []) (st' := []) (σ' := (fhI σ 0 18 s0)) (by decide +kernel) rfl rfl rfl ?_
  subst h
  exact fhW.vret hΓ (by decide +kernel) hk
set_option maxRecDepth 100000 in
set_option maxHeartbeats 4000000 in
theorem L_X11_noteFault_E {Γ : fhX} (hE : fhEok fhYF (fhEn Γ)) (hΓ : fhOk fhYF 11 cX11_noteFault 1 none Γ) (hd : 0 ≤ fhD Γ)   (σ : fhM) (o : fhM) (h : f_X11_noteFault σ = o) (hk : (fun o => fhRet Γ none o) o) : fhW fhYF Γ 0 [(0, .ref 0)] [] σ := by
  unfold f_X11_noteFault at h
  refine fhW.blk fhPF fhLL hΓ [(.aload_n 0, 0), (.aload_n 0, 0), (.getfield 21, 0), (.getfield 168, 0), (.putfield 142, 0), (.aload_n 0, 0), (.aload_n 0, 0), (.getfield 21, 0), (.getfield 168, 0)] (pc' := 19) (lv' := [(0, .ref 0)]) (st' := [.int (σ.1 3 9), .ref 0]) (σ' := (fhI σ 0 17 (σ.1 3 9))) (by decide +kernel) rfl rfl rfl ?_
  refine fhW.z_ne hΓ (tgt := 26) (show fhbk _ _ (.ifCond .ne (7)) _ = true by decide +kernel) (fun hc => ?_) (fun hc => ?_)
  · simp only [if_neg hc] at h
    refine fhW.blk fhPF fhLL hΓ [(.aload_n 0, 0), (.getfield 21, 0), (.getfield 171, 0)] (pc' := 33) (lv' := [(0, .ref 0)]) (st' := [.int (σ.1 3 10), .ref 0]) (σ' := (fhI σ 0 17 (σ.1 3 9))) (by decide +kernel) rfl rfl rfl ?_
    refine fhW.sub (lv' := []) [] rfl ?_
    exact L_X11_noteFault_33 hE hΓ hd (σ.1 3 10) (fhI σ 0 17 (σ.1 3 9)) _ h hk
  · simp only [if_pos hc] at h
    refine fhW.blk fhPF fhLL hΓ [(.iconst (-1), -1)] (pc' := 23) (lv' := [(0, .ref 0)]) (st' := [.int (-1 : Int32), .ref 0]) (σ' := (fhI σ 0 17 (σ.1 3 9))) (by decide +kernel) rfl rfl rfl ?_
    refine fhW.goto hΓ (off := 10) (tgt := 33) (by decide +kernel) ?_
    refine fhW.sub (lv' := []) [] rfl ?_
    exact L_X11_noteFault_33 hE hΓ hd (-1 : Int32) (fhI σ 0 17 (σ.1 3 9)) _ h hk
set_option maxRecDepth 100000 in
theorem T_X11_noteFault {E : fhE} {d : Nat} (hE : fhEok fhYF E) (hd : 0 ≤ d)   (σ : fhM) : fhC fhYF E d miX11_noteFault [.ref 0] σ none (f_X11_noteFault σ) := by
  refine fhC.of (y := yX11_noteFault) (cc := cX11_noteFault) (nL := 1) (ret := none) 11 rfl (by decide +kernel) (Nat.le_of_ble_eq_true rfl) ?_
  intro Γ hΓ hR hD hEn
  subst hD; subst hEn
  exact L_X11_noteFault_E hE hΓ hd   σ _ rfl hR
set_option maxRecDepth 100000 in
set_option maxHeartbeats 4000000 in
theorem L_X7_seenBy_E {Γ : fhX} (hE : fhEok fhYF (fhEn Γ)) (hΓ : fhOk fhYF 7 cX7_seenBy 2 (some .int) Γ) (hd : 1 ≤ fhD Γ) (v0 : Nat) (v1 : Int32) (hv0 : fhiP v0 = true) (σ : fhM) (o : Int32) (h : f_X7_seenBy v0 v1 σ = o) (hk : (fun o => fhRet Γ (some (.int o)) σ) o) : fhW fhYF Γ 0 [(0, .ref v0), (1, .int v1)] [] σ := by
  unfold f_X7_seenBy at h
  refine fhW.blk fhPF fhLL hΓ [(.iconst 1, 1), (.aload_n 0, 0), (.getfield 69, 0), (.ishl, 0), (.iconst 1, 1), (.isub, 0)] (pc' := 8) (lv' := [(0, .ref v0), (1, .int v1)]) (st' := [.int (((1 : Int32) <<< ((σ.1 v0 10) &&& 31)) - (1 : Int32))]) (σ' := σ) (by decide +kernel) rfl rfl (by rcases fhiP_or hv0 with rfl | rfl <;> rfl) ?_
  refine fhW.blk fhPF fhLL hΓ [(.iconst 1, 1), (.iload_n 1, 0), (.ishl, 0), (.iconst (-1), -1), (.ixor, 0), (.iand, 0), (.aload_n 0, 0), (.getfield 23, 0)] (pc' := 18) (lv' := [(0, .ref v0), (1, .int v1)]) (st' := [.ref (v0 + 4), .int ((((1 : Int32) <<< ((σ.1 v0 10) &&& 31)) - (1 : Int32)) &&& (((1 : Int32) <<< (v1 &&& 31)) ^^^ (-1 : Int32)))]) (σ' := σ) (by decide +kernel) rfl rfl (by rcases fhiP_or hv0 with rfl | rfl <;> rfl) ?_
  refine fhW.blk fhPF fhLL hΓ [(.iload_n 1, 0)] (pc' := 19) (lv' := [(0, .ref v0), (1, .int v1)]) (st' := [.int v1, .ref (v0 + 4), .int ((((1 : Int32) <<< ((σ.1 v0 10) &&& 31)) - (1 : Int32)) &&& (((1 : Int32) <<< (v1 &&& 31)) ^^^ (-1 : Int32)))]) (σ' := σ) (by decide +kernel) rfl rfl rfl ?_
  refine fhW.callv hΓ mvX2_get ml_7_156 (t := (v0 + 4)) (ci := 2) (av := [.int v1]) (rest := [.int ((((1 : Int32) <<< ((σ.1 v0 10) &&& 31)) - (1 : Int32)) &&& (((1 : Int32) <<< (v1 &&& 31)) ^^^ (-1 : Int32)))]) (r := (some (.int (fcG σ (v0 + 4) v1)))) (σ' := σ) (T_X2_get (E := fhEn Γ) (d := fhD Γ - 1) hE (by omega) (v0 + 4) v1 (fhiP_ind (p := fun q => fhiC (q + 4) = true) hv0 rfl rfl) σ) (by omega) (by decide +kernel) rfl (fhiC_g (fhiP_ind (p := fun q => fhiC (q + 4) = true) hv0 rfl rfl)) rfl (Nat.le_of_ble_eq_true rfl) rfl ?_
  show fhW fhYF Γ 22 [(0, .ref v0), (1, .int v1)] [.int (fcG σ (v0 + 4) v1), .int ((((1 : Int32) <<< ((σ.1 v0 10) &&& 31)) - (1 : Int32)) &&& (((1 : Int32) <<< (v1 &&& 31)) ^^^ (-1 : Int32)))] σ
  refine fhW.blk fhPF fhLL hΓ [(.iconst (-1), -1), (.ixor, 0), (.iand, 0)] (pc' := 25) (lv' := [(0, .ref v0), (1, .int v1)]) (st' := [.int (((((1 : Int32) <<< ((σ.1 v0 10) &&& 31)) - (1 : Int32)) &&& (((1 : Int32) <<< (v1 &&& 31)) ^^^ (-1 : Int32))) &&& ((fcG σ (v0 + 4) v1) ^^^ (-1 : Int32)))]) (σ' := σ) (by decide +kernel) rfl rfl rfl ?_
  subst h
  exact fhW.iret hΓ (by decide +kernel) hk
set_option maxRecDepth 100000 in
theorem T_X7_seenBy {E : fhE} {d : Nat} (hE : fhEok fhYF E) (hd : 1 ≤ d) (v0 : Nat) (v1 : Int32) (hv0 : fhiP v0 = true) (σ : fhM) : fhC fhYF E d miX7_seenBy [.ref v0, .int v1] σ (some (.int (f_X7_seenBy v0 v1 σ))) σ := by
  refine fhC.of (y := yX7_seenBy) (cc := cX7_seenBy) (nL := 2) (ret := (some .int)) 7 rfl (by decide +kernel) (Nat.le_of_ble_eq_true rfl) ?_
  intro Γ hΓ hR hD hEn
  subst hD; subst hEn
  exact L_X7_seenBy_E hE hΓ hd v0 v1 hv0 σ _ rfl hR
set_option maxRecDepth 100000 in
set_option maxHeartbeats 4000000 in
theorem L_X9_markOf_E {Γ : fhX} (hE : fhEok fhYF (fhEn Γ)) (hΓ : fhOk fhYF 9 cX9_markOf 3 (some .int) Γ) (hd : 1 ≤ fhD Γ) (v1 : Int32) (v2 : Int32)  (σ : fhM) (o : Int32) (h : f_X9_markOf v1 v2 σ = o) (hk : (fun o => fhRet Γ (some (.int o)) σ) o) : fhW fhYF Γ 0 [(0, .ref 39), (1, .int v1), (2, .int v2)] [] σ := by
  unfold f_X9_markOf at h
  refine fhW.blk fhPF fhLL hΓ [(.aload_n 0, 0), (.getfield 20, 0), (.iload_n 1, 0), (.iconst 5, 5), (.imul, 0), (.iload_n 2, 0), (.iadd, 0)] (pc' := 9) (lv' := [(0, .ref 39), (1, .int v1), (2, .int v2)]) (st' := [.int ((v1 * (5 : Int32)) + v2), .ref 42]) (σ' := σ) (by decide +kernel) rfl rfl rfl ?_
  refine fhW.callv hΓ mvX2_get ml_9_60 (t := 42) (ci := 2) (av := [.int ((v1 * (5 : Int32)) + v2)]) (rest := []) (r := (some (.int (fcG σ 42 ((v1 * (5 : Int32)) + v2))))) (σ' := σ) (T_X2_get (E := fhEn Γ) (d := fhD Γ - 1) hE (by omega) 42 ((v1 * (5 : Int32)) + v2) rfl σ) (by omega) (by decide +kernel) rfl rfl rfl (Nat.le_of_ble_eq_true rfl) rfl ?_
  show fhW fhYF Γ 12 [(0, .ref 39), (1, .int v1), (2, .int v2)] [.int (fcG σ 42 ((v1 * (5 : Int32)) + v2))] σ
  subst h
  exact fhW.iret hΓ (by decide +kernel) hk
set_option maxRecDepth 100000 in
theorem T_X9_markOf {E : fhE} {d : Nat} (hE : fhEok fhYF E) (hd : 1 ≤ d) (v1 : Int32) (v2 : Int32)  (σ : fhM) : fhC fhYF E d miX9_markOf [.ref 39, .int v1, .int v2] σ (some (.int (f_X9_markOf v1 v2 σ))) σ := by
  refine fhC.of (y := yX9_markOf) (cc := cX9_markOf) (nL := 3) (ret := (some .int)) 9 rfl (by decide +kernel) (Nat.le_of_ble_eq_true rfl) ?_
  intro Γ hΓ hR hD hEn
  subst hD; subst hEn
  exact L_X9_markOf_E hE hΓ hd v1 v2  σ _ rfl hR
set_option maxRecDepth 100000 in
set_option maxHeartbeats 4000000 in
theorem L_X9_fillViews_113 {Γ : fhX} (hE : fhEok fhYF (fhEn Γ)) (hΓ : fhOk fhYF 9 cX9_fillViews 6 none Γ) (hd : 2 ≤ fhD Γ) (v1 : Int32) (v3 : Int32) (v4 : Int32) (v5 : Int32)  (σ : fhM) (o : (Int32 × Int32) ⊕ ((Int32 × fhM) ⊕ (fhM))) (h : f_X9_fillViews_113 v1 v3 v4 v5 σ = some o) (hk : (fhK (fun x => fhW fhYF Γ 66 [(0, .ref 39), (1, .int v1), (3, .int v3), (4, .int x.1), (5, .int x.2)] [] σ) (fhK (fun x => fhW fhYF Γ 52 [(0, .ref 39), (1, .int v1), (3, .int x.1)] [] x.2) (fun o => fhRet Γ none o))) o) : fhW fhYF Γ 113 [(0, .ref 39), (1, .int v1), (3, .int v3), (4, .int v4), (5, .int v5)] [] σ := by
  unfold f_X9_fillViews_113 at h
  refine fhW.blk fhPF fhLL hΓ [(.iinc 5 1, 1)] (pc' := 116) (lv' := [(5, .int (v5 + (1 : Int32))), (0, .ref 39), (1, .int v1), (3, .int v3), (4, .int v4)]) (st' := []) (σ' := σ) (by decide +kernel) rfl rfl rfl ?_
  refine fhW.goto hΓ (off := (-50)) (tgt := 66) (by decide +kernel) ?_
  refine fhW.sub (lv' := [(0, .ref 39), (1, .int v1), (3, .int v3), (4, .int v4), (5, .int (v5 + (1 : Int32)))]) [1, 2, 3, 4, 0] rfl ?_
  have e9 := Option.some.inj h
  subst e9
  exact hk
set_option maxRecDepth 100000 in
set_option maxHeartbeats 4000000 in
theorem L_X9_fillViews_66 {Γ : fhX} (hE : fhEok fhYF (fhEn Γ)) (hΓ : fhOk fhYF 9 cX9_fillViews 6 none Γ) (hd : 2 ≤ fhD Γ) (v1 : Int32) (v3 : Int32) (v4 : Int32) (v5 : Int32)  (σ : fhM) (o : (Int32 × Int32) ⊕ ((Int32 × fhM) ⊕ (fhM))) (h : f_X9_fillViews_66 v1 v3 v4 v5 σ = some o) (hk : (fhK (fun x => fhW fhYF Γ 66 [(0, .ref 39), (1, .int v1), (3, .int v3), (4, .int x.1), (5, .int x.2)] [] σ) (fhK (fun x => fhW fhYF Γ 52 [(0, .ref 39), (1, .int v1), (3, .int x.1)] [] x.2) (fun o => fhRet Γ none o))) o) : fhW fhYF Γ 66 [(0, .ref 39), (1, .int v1), (3, .int v3), (4, .int v4), (5, .int v5)] [] σ := by
  unfold f_X9_fillViews_66 at h
  refine fhW.blk fhPF fhLL hΓ [(.iload 5, 0), (.aload_n 0, 0), (.getfield 51, 0)] (pc' := 72) (lv' := [(0, .ref 39), (1, .int v1), (3, .int v3), (4, .int v4), (5, .int v5)]) (st' := [.int (σ.1 39 9), .int v5]) (σ' := σ) (by decide +kernel) rfl rfl rfl ?_
  refine fhW.i_ge hΓ (tgt := 119) (show fhbk _ _ (.if_icmp .ge (47)) _ = true by decide +kernel) (fun hc => ?_) (fun hc => ?_)
  · rw [if_pos hc] at h
    refine fhW.blk fhPF fhLL hΓ [(.aload_n 0, 0), (.getfield 23, 0), (.iload_n 1, 0), (.iconst 5, 5), (.imul, 0), (.iload_n 3, 0), (.iadd, 0), (.iload 4, 0)] (pc' := 130) (lv' := [(0, .ref 39), (1, .int v1), (3, .int v3), (4, .int v4), (5, .int v5)]) (st' := [.int v4, .int ((v1 * (5 : Int32)) + v3), .ref 44]) (σ' := σ) (by decide +kernel) rfl rfl rfl ?_
    refine fhW.callv hΓ mvX2_put ml_9_56 (t := 44) (ci := 2) (av := [.int ((v1 * (5 : Int32)) + v3), .int v4]) (rest := []) (r := none) (σ' := (fcP σ 44 ((v1 * (5 : Int32)) + v3) v4)) (T_X2_put (E := fhEn Γ) (d := fhD Γ - 1) hE (by omega) 44 ((v1 * (5 : Int32)) + v3) v4 rfl σ) (by omega) (by decide +kernel) rfl rfl rfl (Nat.le_of_ble_eq_true rfl) rfl ?_
    show fhW fhYF Γ 133 [(0, .ref 39), (1, .int v1), (3, .int v3), (4, .int v4), (5, .int v5)] [] (fcP σ 44 ((v1 * (5 : Int32)) + v3) v4)
    refine fhW.blk fhPF fhLL hΓ [(.iinc 3 1, 1)] (pc' := 136) (lv' := [(3, .int (v3 + (1 : Int32))), (0, .ref 39), (1, .int v1), (4, .int v4), (5, .int v5)]) (st' := []) (σ' := (fcP σ 44 ((v1 * (5 : Int32)) + v3) v4)) (by decide +kernel) rfl rfl rfl ?_
    refine fhW.goto hΓ (off := (-84)) (tgt := 52) (by decide +kernel) ?_
    refine fhW.sub (lv' := [(0, .ref 39), (1, .int v1), (3, .int (v3 + (1 : Int32)))]) [1, 2, 0] rfl ?_
    have e9 := Option.some.inj h
    subst e9
    exact hk
  · rw [if_neg hc] at h
    refine fhW.blk fhPF fhLL hΓ [(.aload_n 0, 0), (.getfield 32, 0), (.iload_n 3, 0)] (pc' := 80) (lv' := [(0, .ref 39), (1, .int v1), (3, .int v3), (4, .int v4), (5, .int v5)]) (st' := [.int v3, .ref 50]) (σ' := σ) (by decide +kernel) rfl rfl rfl ?_
    refine fhW.callv hΓ mvX2_get ml_9_60 (t := 50) (ci := 2) (av := [.int v3]) (rest := []) (r := (some (.int (fcG σ 50 v3)))) (σ' := σ) (T_X2_get (E := fhEn Γ) (d := fhD Γ - 1) hE (by omega) 50 v3 rfl σ) (by omega) (by decide +kernel) rfl rfl rfl (Nat.le_of_ble_eq_true rfl) rfl ?_
    show fhW fhYF Γ 83 [(0, .ref 39), (1, .int v1), (3, .int v3), (4, .int v4), (5, .int v5)] [.int (fcG σ 50 v3)] σ
    refine fhW.blk fhPF fhLL hΓ [(.iload 5, 0), (.ishr, 0), (.iconst 1, 1), (.iand, 0)] (pc' := 88) (lv' := [(0, .ref 39), (1, .int v1), (3, .int v3), (4, .int v4), (5, .int v5)]) (st' := [.int (((fcG σ 50 v3) >>> (v5 &&& 31)) &&& (1 : Int32))]) (σ' := σ) (by decide +kernel) rfl rfl rfl ?_
    refine fhW.z_eq hΓ (tgt := 113) (show fhbk _ _ (.ifCond .eq (25)) _ = true by decide +kernel) (fun hc => ?_) (fun hc => ?_)
    · simp only [if_pos hc] at h
      refine fhW.sub (lv' := [(0, .ref 39), (1, .int v1), (3, .int v3), (4, .int v4), (5, .int v5)]) [0, 1, 2, 3, 4] rfl ?_
      exact L_X9_fillViews_113 hE hΓ hd v1 v3 v4 v5 σ _ h hk
    · simp only [if_neg hc] at h
      refine fhW.blk fhPF fhLL hΓ [(.iload 4, 0), (.aload_n 0, 0), (.iload_n 1, 0), (.iload 5, 0)] (pc' := 97) (lv' := [(0, .ref 39), (1, .int v1), (3, .int v3), (4, .int v4), (5, .int v5)]) (st' := [.int v5, .int v1, .ref 39, .int v4]) (σ' := σ) (by decide +kernel) rfl rfl rfl ?_
      refine fhW.callv hΓ mvX9_markOf ml_9_99 (t := 39) (ci := 9) (av := [.int v1, .int v5]) (rest := [.int v4]) (r := (some (.int (f_X9_markOf v1 v5 σ)))) (σ' := σ) (T_X9_markOf (E := fhEn Γ) (d := fhD Γ - 1) hE (by omega) v1 v5 σ) (by omega) (by decide +kernel) rfl rfl rfl (Nat.le_of_ble_eq_true rfl) rfl ?_
      show fhW fhYF Γ 100 [(0, .ref 39), (1, .int v1), (3, .int v3), (4, .int v4), (5, .int v5)] [.int (f_X9_markOf v1 v5 σ), .int v4] σ
      refine fhW.blk fhPF fhLL hΓ [(.aload_n 0, 0), (.getfield 14, 0), (.iload 5, 0)] (pc' := 106) (lv' := [(0, .ref 39), (1, .int v1), (3, .int v3), (4, .int v4), (5, .int v5)]) (st' := [.int v5, .ref 40, .int (f_X9_markOf v1 v5 σ), .int v4]) (σ' := σ) (by decide +kernel) rfl rfl rfl ?_
      refine fhW.callv hΓ mvX2_get ml_9_60 (t := 40) (ci := 2) (av := [.int v5]) (rest := [.int (f_X9_markOf v1 v5 σ), .int v4]) (r := (some (.int (fcG σ 40 v5)))) (σ' := σ) (T_X2_get (E := fhEn Γ) (d := fhD Γ - 1) hE (by omega) 40 v5 rfl σ) (by omega) (by decide +kernel) rfl rfl rfl (Nat.le_of_ble_eq_true rfl) rfl ?_
      show fhW fhYF Γ 109 [(0, .ref 39), (1, .int v1), (3, .int v3), (4, .int v4), (5, .int v5)] [.int (fcG σ 40 v5), .int (f_X9_markOf v1 v5 σ), .int v4] σ
      refine fhW.blk fhPF fhLL hΓ [(.imul, 0), (.iadd, 0), (.istore 4, 0)] (pc' := 113) (lv' := [(4, .int (v4 + ((f_X9_markOf v1 v5 σ) * (fcG σ 40 v5)))), (0, .ref 39), (1, .int v1), (3, .int v3), (5, .int v5)]) (st' := []) (σ' := σ) (by decide +kernel) rfl rfl rfl ?_
      refine fhW.sub (lv' := [(0, .ref 39), (1, .int v1), (3, .int v3), (4, .int (v4 + ((f_X9_markOf v1 v5 σ) * (fcG σ 40 v5)))), (5, .int v5)]) [1, 2, 3, 0, 4] rfl ?_
      exact L_X9_fillViews_113 hE hΓ hd v1 v3 (v4 + ((f_X9_markOf v1 v5 σ) * (fcG σ 40 v5))) v5 σ _ h hk
set_option maxRecDepth 100000 in
set_option maxHeartbeats 4000000 in
theorem L_X9_fillViews_52 {Γ : fhX} (hE : fhEok fhYF (fhEn Γ)) (hΓ : fhOk fhYF 9 cX9_fillViews 6 none Γ) (hd : 2 ≤ fhD Γ) (v1 : Int32) (v3 : Int32)  (σ : fhM) (o : (Int32 × fhM) ⊕ (fhM)) (h : f_X9_fillViews_52 v1 v3 σ = some o) (hk : (fhK (fun x => fhW fhYF Γ 52 [(0, .ref 39), (1, .int v1), (3, .int x.1)] [] x.2) (fun o => fhRet Γ none o)) o) : fhW fhYF Γ 52 [(0, .ref 39), (1, .int v1), (3, .int v3)] [] σ := by
  unfold f_X9_fillViews_52 at h
  refine fhW.blk fhPF fhLL hΓ [(.iload_n 3, 0), (.aload_n 0, 0), (.getfield 51, 0)] (pc' := 57) (lv' := [(0, .ref 39), (1, .int v1), (3, .int v3)]) (st' := [.int (σ.1 39 9), .int v3]) (σ' := σ) (by decide +kernel) rfl rfl rfl ?_
  refine fhW.i_ge hΓ (tgt := 139) (show fhbk _ _ (.if_icmp .ge (82)) _ = true by decide +kernel) (fun hc => ?_) (fun hc => ?_)
  · rw [if_pos hc] at h
    have e9 := Option.some.inj h
    subst e9
    exact fhW.vret hΓ (by decide +kernel) hk
  · rw [if_neg hc] at h
    refine fhW.blk fhPF fhLL hΓ [(.iconst 0, 0), (.istore 4, 0), (.iconst 0, 0), (.istore 5, 0)] (pc' := 66) (lv' := [(5, .int (0 : Int32)), (4, .int (0 : Int32)), (0, .ref 39), (1, .int v1), (3, .int v3)]) (st' := []) (σ' := σ) (by decide +kernel) rfl rfl rfl ?_
    refine fhW.sub (lv' := [(0, .ref 39), (1, .int v1), (3, .int v3), (4, .int (0 : Int32)), (5, .int (0 : Int32))]) [2, 3, 4, 1, 0] rfl ?_
    exact fhlp_ok (W := (fun x => fhW fhYF Γ 66 [(0, .ref 39), (1, .int v1), (3, .int v3), (4, .int x.1), (5, .int x.2)] [] σ)) (B := (fhK (fun x => fhW fhYF Γ 52 [(0, .ref 39), (1, .int v1), (3, .int x.1)] [] x.2) (fun o => fhRet Γ none o))) (fun x o h hk => L_X9_fillViews_66 hE hΓ hd v1 v3 x.1 x.2 σ o h hk) ((0 : Int32), (0 : Int32)) _ h hk
set_option maxRecDepth 100000 in
set_option maxHeartbeats 4000000 in
theorem L_X9_fillViews_50 {Γ : fhX} (hE : fhEok fhYF (fhEn Γ)) (hΓ : fhOk fhYF 9 cX9_fillViews 6 none Γ) (hd : 2 ≤ fhD Γ) (v1 : Int32)  (σ : fhM) (o : fhM) (h : f_X9_fillViews_50 v1 σ = some o) (hk : (fun o => fhRet Γ none o) o) : fhW fhYF Γ 50 [(0, .ref 39), (1, .int v1)] [] σ := by
  unfold f_X9_fillViews_50 at h
  refine fhW.blk fhPF fhLL hΓ [(.iconst 0, 0), (.istore_n 3, 0)] (pc' := 52) (lv' := [(3, .int (0 : Int32)), (0, .ref 39), (1, .int v1)]) (st' := []) (σ' := σ) (by decide +kernel) rfl rfl rfl ?_
  refine fhW.sub (lv' := [(0, .ref 39), (1, .int v1), (3, .int (0 : Int32))]) [1, 2, 0] rfl ?_
  exact fhlp_ok (W := (fun x => fhW fhYF Γ 52 [(0, .ref 39), (1, .int v1), (3, .int x.1)] [] x.2)) (B := (fun o => fhRet Γ none o)) (fun x o h hk => L_X9_fillViews_52 hE hΓ hd v1 x.1 x.2 o h hk) ((0 : Int32), σ) _ h hk
set_option maxRecDepth 100000 in
set_option maxHeartbeats 4000000 in
theorem L_X9_fillViews_4 {Γ : fhX} (hE : fhEok fhYF (fhEn Γ)) (hΓ : fhOk fhYF 9 cX9_fillViews 6 none Γ) (hd : 2 ≤ fhD Γ) (v1 : Int32) (v2 : Int32) (v3 : Int32)  (σ : fhM) (o : (Int32 × Int32 × fhM) ⊕ (fhM)) (h : f_X9_fillViews_4 v1 v2 v3 σ = some o) (hk : (fhK (fun x => fhW fhYF Γ 4 [(0, .ref 39), (1, .int v1), (2, .int x.1), (3, .int x.2.1)] [] x.2.2) (fun o => fhRet Γ none o)) o) : fhW fhYF Γ 4 [(0, .ref 39), (1, .int v1), (2, .int v2), (3, .int v3)] [] σ := by
  unfold f_X9_fillViews_4 at h
  refine fhW.blk fhPF fhLL hΓ [(.iload_n 3, 0), (.aload_n 0, 0), (.getfield 51, 0)] (pc' := 9) (lv' := [(0, .ref 39), (1, .int v1), (2, .int v2), (3, .int v3)]) (st' := [.int (σ.1 39 9), .int v3]) (σ' := σ) (by decide +kernel) rfl rfl rfl ?_
  refine fhW.i_ge hΓ (tgt := 50) (show fhbk _ _ (.if_icmp .ge (41)) _ = true by decide +kernel) (fun hc => ?_) (fun hc => ?_)
  · rw [if_pos hc] at h
    refine fhW.sub (lv' := [(0, .ref 39), (1, .int v1)]) [0, 1] rfl ?_
    obtain ⟨z1, hz, e1⟩ := Option.map_eq_some_iff.mp h
    clear h
    subst e1
    have h := hz
    have hk : (fun o => fhRet Γ none o) z1 := hk
    exact L_X9_fillViews_50 hE hΓ hd v1 σ _ h hk
  · rw [if_neg hc] at h
    refine fhW.blk fhPF fhLL hΓ [(.aload_n 0, 0), (.getfield 47, 0)] (pc' := 16) (lv' := [(0, .ref 39), (1, .int v1), (2, .int v2), (3, .int v3)]) (st' := [.int (σ.1 39 5)]) (σ' := σ) (by decide +kernel) rfl rfl rfl ?_
    refine fhW.z_le hΓ (tgt := 50) (show fhbk _ _ (.ifCond .le (34)) _ = true by decide +kernel) (fun hc => ?_) (fun hc => ?_)
    · rw [if_pos hc] at h
      refine fhW.sub (lv' := [(0, .ref 39), (1, .int v1)]) [0, 1] rfl ?_
      obtain ⟨z2, hz, e2⟩ := Option.map_eq_some_iff.mp h
      clear h
      subst e2
      have h := hz
      have hk : (fun o => fhRet Γ none o) z2 := hk
      exact L_X9_fillViews_50 hE hΓ hd v1 σ _ h hk
    · rw [if_neg hc] at h
      obtain ⟨hg1, h⟩ := fhif h
      refine fhW.blk fhPF fhLL hΓ [(.aload_n 0, 0), (.getfield 20, 0), (.iload_n 1, 0), (.iconst 5, 5), (.imul, 0), (.iload_n 3, 0), (.iadd, 0), (.iload_n 2, 0), (.aload_n 0, 0), (.getfield 47, 0), (.irem, 0)] (pc' := 34) (lv' := [(0, .ref 39), (1, .int v1), (2, .int v2), (3, .int v3)]) (st' := [.int (fhrem v2 (σ.1 39 5)), .int ((v1 * (5 : Int32)) + v3), .ref 42]) (σ' := σ) (by decide +kernel) rfl rfl hg1 ?_
      refine fhW.callv hΓ mvX2_put ml_9_56 (t := 42) (ci := 2) (av := [.int ((v1 * (5 : Int32)) + v3), .int (fhrem v2 (σ.1 39 5))]) (rest := []) (r := none) (σ' := (fcP σ 42 ((v1 * (5 : Int32)) + v3) (fhrem v2 (σ.1 39 5)))) (T_X2_put (E := fhEn Γ) (d := fhD Γ - 1) hE (by omega) 42 ((v1 * (5 : Int32)) + v3) (fhrem v2 (σ.1 39 5)) rfl σ) (by omega) (by decide +kernel) rfl rfl rfl (Nat.le_of_ble_eq_true rfl) rfl ?_
      show fhW fhYF Γ 37 [(0, .ref 39), (1, .int v1), (2, .int v2), (3, .int v3)] [] (fcP σ 42 ((v1 * (5 : Int32)) + v3) (fhrem v2 (σ.1 39 5)))
      obtain ⟨hg2, h⟩ := fhif h
      refine fhW.blk fhPF fhLL hΓ [(.iload_n 2, 0), (.aload_n 0, 0), (.getfield 47, 0), (.idiv, 0), (.istore_n 2, 0), (.iinc 3 1, 1)] (pc' := 47) (lv' := [(3, .int (v3 + (1 : Int32))), (2, .int (v2 / (σ.1 39 5))), (0, .ref 39), (1, .int v1)]) (st' := []) (σ' := (fcP σ 42 ((v1 * (5 : Int32)) + v3) (fhrem v2 (σ.1 39 5)))) (by decide +kernel) rfl rfl hg2 ?_
      refine fhW.goto hΓ (off := (-43)) (tgt := 4) (by decide +kernel) ?_
      refine fhW.sub (lv' := [(0, .ref 39), (1, .int v1), (2, .int (v2 / (σ.1 39 5))), (3, .int (v3 + (1 : Int32)))]) [2, 3, 1, 0] rfl ?_
      have e9 := Option.some.inj h
      subst e9
      exact hk
set_option maxRecDepth 100000 in
set_option maxHeartbeats 4000000 in
theorem L_X9_fillViews_E {Γ : fhX} (hE : fhEok fhYF (fhEn Γ)) (hΓ : fhOk fhYF 9 cX9_fillViews 6 none Γ) (hd : 2 ≤ fhD Γ) (v1 : Int32)  (σ : fhM) (o : fhM) (h : f_X9_fillViews v1 σ = some o) (hk : (fun o => fhRet Γ none o) o) : fhW fhYF Γ 0 [(0, .ref 39), (1, .int v1)] [] σ := by
  unfold f_X9_fillViews at h
  refine fhW.blk fhPF fhLL hΓ [(.iload_n 1, 0), (.istore_n 2, 0), (.iconst 0, 0), (.istore_n 3, 0)] (pc' := 4) (lv' := [(3, .int (0 : Int32)), (2, .int v1), (0, .ref 39), (1, .int v1)]) (st' := []) (σ' := σ) (by decide +kernel) rfl rfl rfl ?_
  refine fhW.sub (lv' := [(0, .ref 39), (1, .int v1), (2, .int v1), (3, .int (0 : Int32))]) [2, 3, 1, 0] rfl ?_
  exact fhlp_ok (W := (fun x => fhW fhYF Γ 4 [(0, .ref 39), (1, .int v1), (2, .int x.1), (3, .int x.2.1)] [] x.2.2)) (B := (fun o => fhRet Γ none o)) (fun x o h hk => L_X9_fillViews_4 hE hΓ hd v1 x.1 x.2.1 x.2.2 o h hk) (v1, (0 : Int32), σ) _ h hk
set_option maxRecDepth 100000 in
theorem T_X9_fillViews {E : fhE} {d : Nat} (hE : fhEok fhYF E) (hd : 2 ≤ d) (v1 : Int32)  (σ : fhM) {o : fhM} (h : f_X9_fillViews v1 σ = some o) : fhC fhYF E d miX9_fillViews [.ref 39, .int v1] σ none o := by
  refine fhC.of (y := yX9_fillViews) (cc := cX9_fillViews) (nL := 6) (ret := none) 9 rfl (by decide +kernel) (Nat.le_of_ble_eq_true rfl) ?_
  intro Γ hΓ hR hD hEn
  subst hD; subst hEn
  exact L_X9_fillViews_E hE hΓ hd v1  σ _ h hR
set_option maxRecDepth 100000 in
set_option maxHeartbeats 4000000 in
theorem L_X7_truthBits_4 {Γ : fhX} (hE : fhEok fhYF (fhEn Γ)) (hΓ : fhOk fhYF 7 cX7_truthBits 5 (some .int) Γ) (hd : 5 ≤ fhD Γ) (v0 : Nat) (v2 : Int32) (v3 : Int32) (hv0 : fhiP v0 = true) (σ : fhM) (o : (Int32 × Int32 × fhM) ⊕ (Int32 × fhM)) (h : f_X7_truthBits_4 v0 v2 v3 σ = some o) (hk : (fhK (fun x => fhW fhYF Γ 4 [(0, .ref v0), (1, .ref 10), (2, .int x.1), (3, .int x.2.1)] [] x.2.2) (fun o => fhRet Γ (some (.int o.1)) o.2)) o) : fhW fhYF Γ 4 [(0, .ref v0), (1, .ref 10), (2, .int v2), (3, .int v3)] [] σ := by
  unfold f_X7_truthBits_4 at h
  refine fhW.blk fhPF fhLL hΓ [(.iload_n 3, 0), (.aload_n 0, 0), (.getfield 85, 0)] (pc' := 9) (lv' := [(0, .ref v0), (1, .ref 10), (2, .int v2), (3, .int v3)]) (st' := [.int (σ.1 v0 12), .int v3]) (σ' := σ) (by decide +kernel) rfl rfl (by rcases fhiP_or hv0 with rfl | rfl <;> rfl) ?_
  refine fhW.i_ge hΓ (tgt := 57) (show fhbk _ _ (.if_icmp .ge (48)) _ = true by decide +kernel) (fun hc => ?_) (fun hc => ?_)
  · rw [if_pos hc] at h
    refine fhW.blk fhPF fhLL hΓ [(.iload_n 2, 0)] (pc' := 58) (lv' := [(0, .ref v0), (1, .ref 10), (2, .int v2), (3, .int v3)]) (st' := [.int v2]) (σ' := σ) (by decide +kernel) rfl rfl rfl ?_
    have e9 := Option.some.inj h
    subst e9
    exact fhW.iret hΓ (by decide +kernel) hk
  · rw [if_neg hc] at h
    refine fhW.blk fhPF fhLL hΓ [(.aload_n 1, 0), (.aload_n 0, 0), (.getfield 12, 0), (.aload_n 0, 0), (.getfield 30, 0), (.iconst 2, 2)] (pc' := 22) (lv' := [(0, .ref v0), (1, .ref 10), (2, .int v2), (3, .int v3)]) (st' := [.int (2 : Int32), .ref (v0 + 8), .ref (v0 + 1), .ref 10]) (σ' := σ) (by decide +kernel) rfl rfl (by rcases fhiP_or hv0 with rfl | rfl <;> rfl) ?_
    refine fhW.blk fhPF fhLL hΓ [(.iload_n 3, 0), (.imul, 0)] (pc' := 24) (lv' := [(0, .ref v0), (1, .ref 10), (2, .int v2), (3, .int v3)]) (st' := [.int ((2 : Int32) * v3), .ref (v0 + 8), .ref (v0 + 1), .ref 10]) (σ' := σ) (by decide +kernel) rfl rfl rfl ?_
    refine fhW.callv hΓ mvX2_get ml_7_156 (t := (v0 + 8)) (ci := 2) (av := [.int ((2 : Int32) * v3)]) (rest := [.ref (v0 + 1), .ref 10]) (r := (some (.int (fcG σ (v0 + 8) ((2 : Int32) * v3))))) (σ' := σ) (T_X2_get (E := fhEn Γ) (d := fhD Γ - 1) hE (by omega) (v0 + 8) ((2 : Int32) * v3) (fhiP_ind (p := fun q => fhiC (q + 8) = true) hv0 rfl rfl) σ) (by omega) (by decide +kernel) rfl (fhiC_g (fhiP_ind (p := fun q => fhiC (q + 8) = true) hv0 rfl rfl)) rfl (Nat.le_of_ble_eq_true rfl) rfl ?_
    show fhW fhYF Γ 27 [(0, .ref v0), (1, .ref 10), (2, .int v2), (3, .int v3)] [.int (fcG σ (v0 + 8) ((2 : Int32) * v3)), .ref (v0 + 1), .ref 10] σ
    refine fhW.blk fhPF fhLL hΓ [(.aload_n 0, 0), (.getfield 30, 0), (.iconst 2, 2), (.iload_n 3, 0), (.imul, 0), (.iconst 1, 1)] (pc' := 35) (lv' := [(0, .ref v0), (1, .ref 10), (2, .int v2), (3, .int v3)]) (st' := [.int (1 : Int32), .int ((2 : Int32) * v3), .ref (v0 + 8), .int (fcG σ (v0 + 8) ((2 : Int32) * v3)), .ref (v0 + 1), .ref 10]) (σ' := σ) (by decide +kernel) rfl rfl (by rcases fhiP_or hv0 with rfl | rfl <;> rfl) ?_
    refine fhW.blk fhPF fhLL hΓ [(.iadd, 0)] (pc' := 36) (lv' := [(0, .ref v0), (1, .ref 10), (2, .int v2), (3, .int v3)]) (st' := [.int (((2 : Int32) * v3) + (1 : Int32)), .ref (v0 + 8), .int (fcG σ (v0 + 8) ((2 : Int32) * v3)), .ref (v0 + 1), .ref 10]) (σ' := σ) (by decide +kernel) rfl rfl rfl ?_
    refine fhW.callv hΓ mvX2_get ml_7_156 (t := (v0 + 8)) (ci := 2) (av := [.int (((2 : Int32) * v3) + (1 : Int32))]) (rest := [.int (fcG σ (v0 + 8) ((2 : Int32) * v3)), .ref (v0 + 1), .ref 10]) (r := (some (.int (fcG σ (v0 + 8) (((2 : Int32) * v3) + (1 : Int32)))))) (σ' := σ) (T_X2_get (E := fhEn Γ) (d := fhD Γ - 1) hE (by omega) (v0 + 8) (((2 : Int32) * v3) + (1 : Int32)) (fhiP_ind (p := fun q => fhiC (q + 8) = true) hv0 rfl rfl) σ) (by omega) (by decide +kernel) rfl (fhiC_g (fhiP_ind (p := fun q => fhiC (q + 8) = true) hv0 rfl rfl)) rfl (Nat.le_of_ble_eq_true rfl) rfl ?_
    show fhW fhYF Γ 39 [(0, .ref v0), (1, .ref 10), (2, .int v2), (3, .int v3)] [.int (fcG σ (v0 + 8) (((2 : Int32) * v3) + (1 : Int32))), .int (fcG σ (v0 + 8) ((2 : Int32) * v3)), .ref (v0 + 1), .ref 10] σ
    obtain ⟨q1, hb1, h⟩ := Option.bind_eq_some_iff.mp h
    refine fhW.callv hΓ mvX10_value ml_7_159 (t := 10) (ci := 10) (av := [.ref (v0 + 1), .int (fcG σ (v0 + 8) ((2 : Int32) * v3)), .int (fcG σ (v0 + 8) (((2 : Int32) * v3) + (1 : Int32)))]) (rest := []) (r := (some (.int q1.1))) (σ' := q1.2) (T_X10_value (E := fhEn Γ) (d := fhD Γ - 1) hE (by omega) (v0 + 1) (fcG σ (v0 + 8) ((2 : Int32) * v3)) (fcG σ (v0 + 8) (((2 : Int32) * v3) + (1 : Int32))) (fhiP_ind (p := fun q => fhiK (q + 1) = true) hv0 rfl rfl) σ hb1) (by omega) (by decide +kernel) rfl rfl rfl (Nat.le_of_ble_eq_true rfl) rfl ?_
    show fhW fhYF Γ 42 [(0, .ref v0), (1, .ref 10), (2, .int v2), (3, .int v3)] [.int q1.1] q1.2
    refine fhW.blk fhPF fhLL hΓ [(.istore 4, 0), (.iload_n 2, 0), (.iload 4, 0), (.iload_n 3, 0), (.ishl, 0), (.ior, 0), (.istore_n 2, 0), (.iinc 3 1, 1)] (pc' := 54) (lv' := [(3, .int (v3 + (1 : Int32))), (2, .int (v2 ||| (q1.1 <<< (v3 &&& 31)))), (4, .int q1.1), (0, .ref v0), (1, .ref 10)]) (st' := []) (σ' := q1.2) (by decide +kernel) rfl rfl rfl ?_
    refine fhW.goto hΓ (off := (-50)) (tgt := 4) (by decide +kernel) ?_
    refine fhW.sub (lv' := [(0, .ref v0), (1, .ref 10), (2, .int (v2 ||| (q1.1 <<< (v3 &&& 31)))), (3, .int (v3 + (1 : Int32)))]) [3, 4, 1, 0] rfl ?_
    have e9 := Option.some.inj h
    subst e9
    exact hk
set_option maxRecDepth 100000 in
set_option maxHeartbeats 4000000 in
theorem L_X7_truthBits_E {Γ : fhX} (hE : fhEok fhYF (fhEn Γ)) (hΓ : fhOk fhYF 7 cX7_truthBits 5 (some .int) Γ) (hd : 5 ≤ fhD Γ) (v0 : Nat) (hv0 : fhiP v0 = true) (σ : fhM) (o : Int32 × fhM) (h : f_X7_truthBits v0 σ = some o) (hk : (fun o => fhRet Γ (some (.int o.1)) o.2) o) : fhW fhYF Γ 0 [(0, .ref v0), (1, .ref 10)] [] σ := by
  unfold f_X7_truthBits at h
  refine fhW.blk fhPF fhLL hΓ [(.iconst 0, 0), (.istore_n 2, 0), (.iconst 0, 0), (.istore_n 3, 0)] (pc' := 4) (lv' := [(3, .int (0 : Int32)), (2, .int (0 : Int32)), (0, .ref v0), (1, .ref 10)]) (st' := []) (σ' := σ) (by decide +kernel) rfl rfl rfl ?_
  refine fhW.sub (lv' := [(0, .ref v0), (1, .ref 10), (2, .int (0 : Int32)), (3, .int (0 : Int32))]) [2, 3, 1, 0] rfl ?_
  exact fhlp_ok (W := (fun x => fhW fhYF Γ 4 [(0, .ref v0), (1, .ref 10), (2, .int x.1), (3, .int x.2.1)] [] x.2.2)) (B := (fun o => fhRet Γ (some (.int o.1)) o.2)) (fun x o h hk => L_X7_truthBits_4 hE hΓ hd v0 x.1 x.2.1 hv0 x.2.2 o h hk) ((0 : Int32), (0 : Int32), σ) _ h hk
set_option maxRecDepth 100000 in
theorem T_X7_truthBits {E : fhE} {d : Nat} (hE : fhEok fhYF E) (hd : 5 ≤ d) (v0 : Nat) (hv0 : fhiP v0 = true) (σ : fhM) {o : Int32 × fhM} (h : f_X7_truthBits v0 σ = some o) : fhC fhYF E d miX7_truthBits [.ref v0, .ref 10] σ (some (.int o.1)) o.2 := by
  refine fhC.of (y := yX7_truthBits) (cc := cX7_truthBits) (nL := 5) (ret := (some .int)) 7 rfl (by decide +kernel) (Nat.le_of_ble_eq_true rfl) ?_
  intro Γ hΓ hR hD hEn
  subst hD; subst hEn
  exact L_X7_truthBits_E hE hΓ hd v0 hv0 σ _ h hR

