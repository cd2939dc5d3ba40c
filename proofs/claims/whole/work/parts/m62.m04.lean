set_option maxRecDepth 100000 in
set_option maxHeartbeats 4000000 in
theorem L_X12_knowersNow_26 {Γ : fhX} (hΓ : fhOk fhYM 12 cX12_knowersNow 3 (some .int) Γ) (hd : 4 ≤ fhD Γ) (v1 : Int32) (v2 : Int32)  (σ : fhM) (o : (Int32 × Int32 × fhM) ⊕ (Int32 × fhM)) (h : f_X12_knowersNow_26 v1 v2 σ = some o) (hk : (fhK (fun x => fhW fhYM Γ 4 [(0, .ref 0), (1, .int x.1), (2, .int x.2.1)] [] x.2.2) (fun o => fhRet Γ (some (.int o.1)) o.2)) o) : fhW fhYM Γ 26 [(0, .ref 0), (1, .int v1), (2, .int v2)] [] σ := by
  unfold f_X12_knowersNow_26 at h
  refine fhW.blk fhPM fhLL hΓ [(.iinc 2 1, 1)] (pc' := 29) (lv' := [(2, .int (v2 + (1 : Int32))), (0, .ref 0), (1, .int v1)]) (st' := []) (σ' := σ) (by decide +kernel) rfl rfl rfl ?_
  refine fhW.goto hΓ (off := (-25)) (tgt := 4) (by decide +kernel) ?_
  refine fhW.sub (lv' := [(0, .ref 0), (1, .int v1), (2, .int (v2 + (1 : Int32)))]) [1, 2, 0] rfl ?_
  have e9 := Option.some.inj h
  subst e9
  exact hk
set_option maxRecDepth 100000 in
set_option maxHeartbeats 4000000 in
theorem L_X12_knowersNow_4 {Γ : fhX} (hΓ : fhOk fhYM 12 cX12_knowersNow 3 (some .int) Γ) (hd : 4 ≤ fhD Γ) (v1 : Int32) (v2 : Int32)  (σ : fhM) (o : (Int32 × Int32 × fhM) ⊕ (Int32 × fhM)) (h : f_X12_knowersNow_4 v1 v2 σ = some o) (hk : (fhK (fun x => fhW fhYM Γ 4 [(0, .ref 0), (1, .int x.1), (2, .int x.2.1)] [] x.2.2) (fun o => fhRet Γ (some (.int o.1)) o.2)) o) : fhW fhYM Γ 4 [(0, .ref 0), (1, .int v1), (2, .int v2)] [] σ := by
  unfold f_X12_knowersNow_4 at h
  refine fhW.blk fhPM fhLL hΓ [(.iload_n 2, 0), (.aload_n 0, 0)] (pc' := 6) (lv' := [(0, .ref 0), (1, .int v1), (2, .int v2)]) (st' := [.ref 0, .int v2]) (σ' := σ) (by decide +kernel) rfl rfl rfl ?_
  refine fhW.callv hΓ mvX12_guestMany ml_12_423 (t := 0) (ci := 12) (av := []) (rest := [.int v2]) (r := (some (.int (f_X12_guestMany σ)))) (σ' := σ) (T_X12_guestMany (E := fhEn Γ) (d := fhD Γ - 1) (by omega) σ) (by omega) (by decide +kernel) rfl rfl rfl (Nat.le_of_ble_eq_true rfl) rfl ?_
  show fhW fhYM Γ 9 [(0, .ref 0), (1, .int v1), (2, .int v2)] [.int (f_X12_guestMany σ), .int v2] σ
  refine fhW.i_ge hΓ (tgt := 32) (show fhbk _ _ (.if_icmp .ge (23)) _ = true by decide +kernel) (fun hc => ?_) (fun hc => ?_)
  · rw [if_pos hc] at h
    refine fhW.blk fhPM fhLL hΓ [(.iload_n 1, 0)] (pc' := 33) (lv' := [(0, .ref 0), (1, .int v1), (2, .int v2)]) (st' := [.int v1]) (σ' := σ) (by decide +kernel) rfl rfl rfl ?_
    have e9 := Option.some.inj h
    subst e9
    exact fhW.iret hΓ (by decide +kernel) hk
  · rw [if_neg hc] at h
    refine fhW.blk fhPM fhLL hΓ [(.aload_n 0, 0), (.iload_n 2, 0)] (pc' := 14) (lv' := [(0, .ref 0), (1, .int v1), (2, .int v2)]) (st' := [.int v2, .ref 0]) (σ' := σ) (by decide +kernel) rfl rfl rfl ?_
    obtain ⟨q1, hb1, h⟩ := Option.bind_eq_some_iff.mp h
    refine fhW.callv hΓ mvX12_doesKnow ml_12_484 (t := 0) (ci := 12) (av := [.int v2]) (rest := []) (r := (some (.int (fhb q1.1)))) (σ' := q1.2) (T_X12_doesKnow (E := fhEn Γ) (d := fhD Γ - 1) (by omega) v2 σ hb1) (by omega) (by decide +kernel) rfl rfl rfl (Nat.le_of_ble_eq_true rfl) rfl ?_
    show fhW fhYM Γ 17 [(0, .ref 0), (1, .int v1), (2, .int v2)] [.int (fhb q1.1)] q1.2
    refine fhW.b_eq hΓ (tgt := 26) (show fhbk _ _ (.ifCond .eq (9)) _ = true by decide +kernel) (fun hc => ?_) (fun hc => ?_)
    · simp only [if_neg hc] at h
      refine fhW.sub (lv' := [(0, .ref 0), (1, .int v1), (2, .int v2)]) [0, 1, 2] rfl ?_
      exact L_X12_knowersNow_26 hΓ hd v1 v2 q1.2 _ h hk
    · simp only [if_pos hc] at h
      refine fhW.blk fhPM fhLL hΓ [(.iload_n 1, 0), (.iconst 1, 1), (.iload_n 2, 0), (.ishl, 0), (.ior, 0), (.istore_n 1, 0)] (pc' := 26) (lv' := [(1, .int (v1 ||| ((1 : Int32) <<< (v2 &&& 31)))), (0, .ref 0), (2, .int v2)]) (st' := []) (σ' := q1.2) (by decide +kernel) rfl rfl rfl ?_
      refine fhW.sub (lv' := [(0, .ref 0), (1, .int (v1 ||| ((1 : Int32) <<< (v2 &&& 31)))), (2, .int v2)]) [1, 0, 2] rfl ?_
      exact L_X12_knowersNow_26 hΓ hd (v1 ||| ((1 : Int32) <<< (v2 &&& 31))) v2 q1.2 _ h hk
set_option maxRecDepth 100000 in
set_option maxHeartbeats 4000000 in
theorem L_X12_knowersNow_E {Γ : fhX} (hΓ : fhOk fhYM 12 cX12_knowersNow 3 (some .int) Γ) (hd : 4 ≤ fhD Γ)   (σ : fhM) (o : Int32 × fhM) (h : f_X12_knowersNow σ = some o) (hk : (fun o => fhRet Γ (some (.int o.1)) o.2) o) : fhW fhYM Γ 0 [(0, .ref 0)] [] σ := by
  unfold f_X12_knowersNow at h
  refine fhW.blk fhPM fhLL hΓ [(.iconst 0, 0), (.istore_n 1, 0), (.iconst 0, 0), (.istore_n 2, 0)] (pc' := 4) (lv' := [(2, .int (0 : Int32)), (1, .int (0 : Int32)), (0, .ref 0)]) (st' := []) (σ' := σ) (by decide +kernel) rfl rfl rfl ?_
  refine fhW.sub (lv' := [(0, .ref 0), (1, .int (0 : Int32)), (2, .int (0 : Int32))]) [2, 1, 0] rfl ?_
  exact fhlp_ok (W := (fun x => fhW fhYM Γ 4 [(0, .ref 0), (1, .int x.1), (2, .int x.2.1)] [] x.2.2)) (B := (fun o => fhRet Γ (some (.int o.1)) o.2)) (fun x o h hk => L_X12_knowersNow_4 hΓ hd x.1 x.2.1 x.2.2 o h hk) ((0 : Int32), (0 : Int32), σ) _ h hk
set_option maxRecDepth 100000 in
theorem T_X12_knowersNow {E : fhE} {d : Nat} (hd : 4 ≤ d)   (σ : fhM) {o : Int32 × fhM} (h : f_X12_knowersNow σ = some o) : fhC fhYM E d miX12_knowersNow [.ref 0] σ (some (.int o.1)) o.2 := by
  refine fhC.of (y := yX12_knowersNow) (cc := cX12_knowersNow) (nL := 3) (ret := (some .int)) 12 rfl (by decide +kernel) (Nat.le_of_ble_eq_true rfl) ?_
  intro Γ hΓ hR hD hEn
  subst hD; subst hEn
  exact L_X12_knowersNow_E hΓ hd   σ _ h hR
set_option maxRecDepth 100000 in
set_option maxHeartbeats 4000000 in
theorem L_X12_isKept_71 {Γ : fhX} (hΓ : fhOk fhYM 12 cX12_isKept 5 none Γ) (hd : 1 ≤ fhD Γ) (v1 : Int32) (v2 : Int32) (v3 : Int32)  (σ : fhM) (o : fhM) (h : f_X12_isKept_71 v1 v2 v3 σ = some o) (hk : (fun o => fhRet Γ none o) o) : fhW fhYM Γ 71 [(0, .ref 0), (1, .int v1), (2, .int v2), (3, .int v3)] [] σ := by
  unfold f_X12_isKept_71 at h
  refine fhW.blk fhPM fhLL hΓ [(.sipush 1027, 1027), (.iconst 4, 4), (.aload_n 0, 0), (.getfield 147, 0), (.sipush 1026, 1026), (.iaload, 0), (.imul, 0), (.iadd, 0), (.iconst 4, 4), (.isub, 0), (.istore 4, 0)] (pc' := 89) (lv' := [(4, .int (((1027 : Int32) + ((4 : Int32) * (σ.1 44 1026))) - (4 : Int32))), (0, .ref 0), (1, .int v1), (2, .int v2), (3, .int v3)]) (st' := []) (σ' := σ) (by decide +kernel) rfl rfl rfl ?_
  obtain ⟨w4_1, e1, h⟩ := fhlet_elim h
  rw [← e1]
  obtain ⟨hg1, h⟩ := fhif h
  refine fhW.blk fhPM fhLL hΓ [(.aload_n 0, 0), (.getfield 147, 0), (.iload 4, 0), (.iload_n 1, 0), (.iastore, 0), (.aload_n 0, 0), (.getfield 147, 0), (.iload 4, 0), (.iconst 1, 1), (.iadd, 0), (.iload_n 2, 0), (.iastore, 0), (.aload_n 0, 0), (.getfield 147, 0), (.iload 4, 0), (.iconst 2, 2), (.iadd, 0), (.iload_n 3, 0), (.iastore, 0), (.aload_n 0, 0), (.getfield 147, 0), (.iload 4, 0), (.iconst 3, 3), (.iadd, 0), (.aload_n 0, 0)] (pc' := 126) (lv' := [(4, .int w4_1), (0, .ref 0), (1, .int v1), (2, .int v2), (3, .int v3)]) (st' := [.ref 0, .int (w4_1 + (3 : Int32)), .ref 44]) (σ' := (fhI (fhI (fhI σ 44 (fhix w4_1) v1) 44 (fhix (w4_1 + (1 : Int32))) v2) 44 (fhix (w4_1 + (2 : Int32))) v3)) (by decide +kernel) rfl rfl hg1 ?_
  obtain ⟨q1, hb1, h⟩ := Option.bind_eq_some_iff.mp h
  refine fhW.callv hΓ mvX12_leftMany ml_12_487 (t := 0) (ci := 12) (av := []) (rest := [.int (w4_1 + (3 : Int32)), .ref 44]) (r := (some (.int q1))) (σ' := (fhI (fhI (fhI σ 44 (fhix w4_1) v1) 44 (fhix (w4_1 + (1 : Int32))) v2) 44 (fhix (w4_1 + (2 : Int32))) v3)) (T_X12_leftMany (E := fhEn Γ) (d := fhD Γ - 1) (by omega) (fhI (fhI (fhI σ 44 (fhix w4_1) v1) 44 (fhix (w4_1 + (1 : Int32))) v2) 44 (fhix (w4_1 + (2 : Int32))) v3) hb1) (by omega) (by decide +kernel) rfl rfl rfl (Nat.le_of_ble_eq_true rfl) rfl ?_
  show fhW fhYM Γ 129 [(4, .int w4_1), (0, .ref 0), (1, .int v1), (2, .int v2), (3, .int v3)] [.int q1, .int (w4_1 + (3 : Int32)), .ref 44] (fhI (fhI (fhI σ 44 (fhix w4_1) v1) 44 (fhix (w4_1 + (1 : Int32))) v2) 44 (fhix (w4_1 + (2 : Int32))) v3)
  obtain ⟨hg2, h⟩ := fhif h
  refine fhW.blk fhPM fhLL hΓ [(.iastore, 0)] (pc' := 130) (lv' := [(4, .int w4_1), (0, .ref 0), (1, .int v1), (2, .int v2), (3, .int v3)]) (st' := []) (σ' := (fhI (fhI (fhI (fhI σ 44 (fhix w4_1) v1) 44 (fhix (w4_1 + (1 : Int32))) v2) 44 (fhix (w4_1 + (2 : Int32))) v3) 44 (fhix (w4_1 + (3 : Int32))) q1)) (by decide +kernel) rfl rfl hg2 ?_
  have e9 := Option.some.inj h
  subst e9
  exact fhW.vret hΓ (by decide +kernel) hk
set_option maxRecDepth 100000 in
set_option maxHeartbeats 4000000 in
theorem L_X12_isKept_26 {Γ : fhX} (hΓ : fhOk fhYM 12 cX12_isKept 5 none Γ) (hd : 1 ≤ fhD Γ) (v1 : Int32) (v2 : Int32) (v3 : Int32) (v4 : Int32)  (σ : fhM) (o : (Int32 × fhM) ⊕ (fhM)) (h : f_X12_isKept_26 v1 v2 v3 v4 σ = some o) (hk : (fhK (fun x => fhW fhYM Γ 26 [(0, .ref 0), (1, .int v1), (2, .int v2), (3, .int v3), (4, .int x.1)] [] x.2) (fun o => fhRet Γ none o)) o) : fhW fhYM Γ 26 [(0, .ref 0), (1, .int v1), (2, .int v2), (3, .int v3), (4, .int v4)] [] σ := by
  unfold f_X12_isKept_26 at h
  refine fhW.blk fhPM fhLL hΓ [(.iload 4, 0), (.sipush 1183, 1183)] (pc' := 31) (lv' := [(0, .ref 0), (1, .int v1), (2, .int v2), (3, .int v3), (4, .int v4)]) (st' := [.int (1183 : Int32), .int v4]) (σ' := σ) (by decide +kernel) rfl rfl rfl ?_
  refine fhW.i_ge hΓ (tgt := 56) (show fhbk _ _ (.if_icmp .ge (25)) _ = true by decide +kernel) (fun hc => ?_) (fun hc => ?_)
  · rw [if_pos hc] at h
    refine fhW.goto hΓ (off := 15) (tgt := 71) (by decide +kernel) ?_
    refine fhW.sub (lv' := [(0, .ref 0), (1, .int v1), (2, .int v2), (3, .int v3)]) [0, 1, 2, 3] rfl ?_
    obtain ⟨z1, hz, e2⟩ := Option.map_eq_some_iff.mp h
    clear h
    subst e2
    have h := hz
    have hk : (fun o => fhRet Γ none o) z1 := hk
    exact L_X12_isKept_71 hΓ hd v1 v2 v3 σ _ h hk
  · rw [if_neg hc] at h
    obtain ⟨hg3, h⟩ := fhif h
    refine fhW.blk fhPM fhLL hΓ [(.aload_n 0, 0), (.getfield 147, 0), (.iload 4, 0), (.aload_n 0, 0), (.getfield 147, 0), (.iload 4, 0), (.iconst 4, 4), (.iadd, 0), (.iaload, 0), (.iastore, 0), (.iinc 4 1, 1)] (pc' := 53) (lv' := [(4, .int (v4 + (1 : Int32))), (0, .ref 0), (1, .int v1), (2, .int v2), (3, .int v3)]) (st' := []) (σ' := (fhI σ 44 (fhix v4) (σ.1 44 (fhix (v4 + (4 : Int32)))))) (by decide +kernel) rfl rfl hg3 ?_
    refine fhW.goto hΓ (off := (-27)) (tgt := 26) (by decide +kernel) ?_
    refine fhW.sub (lv' := [(0, .ref 0), (1, .int v1), (2, .int v2), (3, .int v3), (4, .int (v4 + (1 : Int32)))]) [1, 2, 3, 4, 0] rfl ?_
    have e9 := Option.some.inj h
    subst e9
    exact hk
set_option maxRecDepth 100000 in
set_option maxHeartbeats 4000000 in
theorem L_X12_isKept_E {Γ : fhX} (hΓ : fhOk fhYM 12 cX12_isKept 5 none Γ) (hd : 1 ≤ fhD Γ) (v1 : Int32) (v2 : Int32) (v3 : Int32)  (σ : fhM) (o : fhM) (h : f_X12_isKept v1 v2 v3 σ = some o) (hk : (fun o => fhRet Γ none o) o) : fhW fhYM Γ 0 [(0, .ref 0), (1, .int v1), (2, .int v2), (3, .int v3)] [] σ := by
  unfold f_X12_isKept at h
  refine fhW.blk fhPM fhLL hΓ [(.aload_n 0, 0), (.getfield 472, 0)] (pc' := 4) (lv' := [(0, .ref 0), (1, .int v1), (2, .int v2), (3, .int v3)]) (st' := [.int (σ.1 0 62)]) (σ' := σ) (by decide +kernel) rfl rfl rfl ?_
  refine fhW.z_eq hΓ (tgt := 8) (show fhbk _ _ (.ifCond .eq (4)) _ = true by decide +kernel) (fun hc => ?_) (fun hc => ?_)
  · rw [if_pos hc] at h
    refine fhW.blk fhPM fhLL hΓ [(.aload_n 0, 0), (.getfield 147, 0), (.sipush 1026, 1026), (.iaload, 0), (.bipush 40, 40)] (pc' := 18) (lv' := [(0, .ref 0), (1, .int v1), (2, .int v2), (3, .int v3)]) (st' := [.int (40 : Int32), .int (σ.1 44 1026)]) (σ' := σ) (by decide +kernel) rfl rfl rfl ?_
    refine fhW.i_ne hΓ (tgt := 59) (show fhbk _ _ (.if_icmp .ne (41)) _ = true by decide +kernel) (fun hc => ?_) (fun hc => ?_)
    · rw [if_neg hc] at h
      refine fhW.blk fhPM fhLL hΓ [(.aload_n 0, 0), (.getfield 147, 0), (.sipush 1026, 1026), (.dup2, 0), (.iaload, 0), (.iconst 1, 1), (.iadd, 0), (.iastore, 0)] (pc' := 71) (lv' := [(0, .ref 0), (1, .int v1), (2, .int v2), (3, .int v3)]) (st' := []) (σ' := (fhI σ 44 1026 ((σ.1 44 1026) + (1 : Int32)))) (by decide +kernel) rfl rfl rfl ?_
      refine fhW.sub (lv' := [(0, .ref 0), (1, .int v1), (2, .int v2), (3, .int v3)]) [0, 1, 2, 3] rfl ?_
      exact L_X12_isKept_71 hΓ hd v1 v2 v3 (fhI σ 44 1026 ((σ.1 44 1026) + (1 : Int32))) _ h hk
    · rw [if_pos hc] at h
      refine fhW.blk fhPM fhLL hΓ [(.sipush 1027, 1027), (.istore 4, 0)] (pc' := 26) (lv' := [(4, .int (1027 : Int32)), (0, .ref 0), (1, .int v1), (2, .int v2), (3, .int v3)]) (st' := []) (σ' := σ) (by decide +kernel) rfl rfl rfl ?_
      refine fhW.sub (lv' := [(0, .ref 0), (1, .int v1), (2, .int v2), (3, .int v3), (4, .int (1027 : Int32))]) [1, 2, 3, 4, 0] rfl ?_
      exact fhlp_ok (W := (fun x => fhW fhYM Γ 26 [(0, .ref 0), (1, .int v1), (2, .int v2), (3, .int v3), (4, .int x.1)] [] x.2)) (B := (fun o => fhRet Γ none o)) (fun x o h hk => L_X12_isKept_26 hΓ hd v1 v2 v3 x.1 x.2 o h hk) ((1027 : Int32), σ) _ h hk
  · rw [if_neg hc] at h
    have e9 := Option.some.inj h
    subst e9
    exact fhW.vret hΓ (by decide +kernel) hk
set_option maxRecDepth 100000 in
theorem T_X12_isKept {E : fhE} {d : Nat} (hd : 1 ≤ d) (v1 : Int32) (v2 : Int32) (v3 : Int32)  (σ : fhM) {o : fhM} (h : f_X12_isKept v1 v2 v3 σ = some o) : fhC fhYM E d miX12_isKept [.ref 0, .int v1, .int v2, .int v3] σ none o := by
  refine fhC.of (y := yX12_isKept) (cc := cX12_isKept) (nL := 5) (ret := none) 12 rfl (by decide +kernel) (Nat.le_of_ble_eq_true rfl) ?_
  intro Γ hΓ hR hD hEn
  subst hD; subst hEn
  exact L_X12_isKept_E hΓ hd v1 v2 v3  σ _ h hR
set_option maxRecDepth 100000 in
set_option maxHeartbeats 4000000 in
theorem L_X12_leavesAs_57 {Γ : fhX} (hΓ : fhOk fhYM 12 cX12_leavesAs 4 (some .int) Γ) (hd : 3 ≤ fhD Γ) (v1 : Int32) (v2 : Int32) (v3 : Int32)  (σ : fhM) (o : (Int32 × fhM) ⊕ (Int32 × fhM)) (h : f_X12_leavesAs_57 v1 v2 v3 σ = some o) (hk : (fhK (fun x => fhW fhYM Γ 20 [(0, .ref 0), (1, .int v1), (2, .int v2), (3, .int x.1)] [] x.2) (fun o => fhRet Γ (some (.int o.1)) o.2)) o) : fhW fhYM Γ 57 [(0, .ref 0), (1, .int v1), (2, .int v2), (3, .int v3)] [] σ := by
  unfold f_X12_leavesAs_57 at h
  refine fhW.blk fhPM fhLL hΓ [(.iinc 3 1, 1)] (pc' := 60) (lv' := [(3, .int (v3 + (1 : Int32))), (0, .ref 0), (1, .int v1), (2, .int v2)]) (st' := []) (σ' := σ) (by decide +kernel) rfl rfl rfl ?_
  refine fhW.goto hΓ (off := (-40)) (tgt := 20) (by decide +kernel) ?_
  refine fhW.sub (lv' := [(0, .ref 0), (1, .int v1), (2, .int v2), (3, .int (v3 + (1 : Int32)))]) [1, 2, 3, 0] rfl ?_
  have e9 := Option.some.inj h
  subst e9
  exact hk
set_option maxRecDepth 100000 in
set_option maxHeartbeats 4000000 in
theorem L_X12_leavesAs_20 {Γ : fhX} (hΓ : fhOk fhYM 12 cX12_leavesAs 4 (some .int) Γ) (hd : 3 ≤ fhD Γ) (v1 : Int32) (v2 : Int32) (v3 : Int32)  (σ : fhM) (o : (Int32 × fhM) ⊕ (Int32 × fhM)) (h : f_X12_leavesAs_20 v1 v2 v3 σ = some o) (hk : (fhK (fun x => fhW fhYM Γ 20 [(0, .ref 0), (1, .int v1), (2, .int v2), (3, .int x.1)] [] x.2) (fun o => fhRet Γ (some (.int o.1)) o.2)) o) : fhW fhYM Γ 20 [(0, .ref 0), (1, .int v1), (2, .int v2), (3, .int v3)] [] σ := by
  unfold f_X12_leavesAs_20 at h
  refine fhW.blk fhPM fhLL hΓ [(.iload_n 3, 0), (.aload_n 0, 0), (.getfield 432, 0)] (pc' := 25) (lv' := [(0, .ref 0), (1, .int v1), (2, .int v2), (3, .int v3)]) (st' := [.int (σ.1 0 52), .int v3]) (σ' := σ) (by decide +kernel) rfl rfl rfl ?_
  refine fhW.i_ge hΓ (tgt := 63) (show fhbk _ _ (.if_icmp .ge (38)) _ = true by decide +kernel) (fun hc => ?_) (fun hc => ?_)
  · rw [if_pos hc] at h
    refine fhW.blk fhPM fhLL hΓ [(.iload_n 2, 0)] (pc' := 64) (lv' := [(0, .ref 0), (1, .int v1), (2, .int v2), (3, .int v3)]) (st' := [.int v2]) (σ' := σ) (by decide +kernel) rfl rfl rfl ?_
    have e9 := Option.some.inj h
    subst e9
    exact fhW.iret hΓ (by decide +kernel) hk
  · rw [if_neg hc] at h
    refine fhW.blk fhPM fhLL hΓ [(.aload_n 0, 0), (.iload_n 3, 0)] (pc' := 30) (lv' := [(0, .ref 0), (1, .int v1), (2, .int v2), (3, .int v3)]) (st' := [.int v3, .ref 0]) (σ' := σ) (by decide +kernel) rfl rfl rfl ?_
    obtain ⟨q2, hb1, h⟩ := Option.bind_eq_some_iff.mp h
    refine fhW.callv hΓ mvX12_isLeft ml_12_478 (t := 0) (ci := 12) (av := [.int v3]) (rest := []) (r := (some (.int (fhb q2)))) (σ' := σ) (T_X12_isLeft (E := fhEn Γ) (d := fhD Γ - 1) (by omega) v3 σ hb1) (by omega) (by decide +kernel) rfl rfl rfl (Nat.le_of_ble_eq_true rfl) rfl ?_
    show fhW fhYM Γ 33 [(0, .ref 0), (1, .int v1), (2, .int v2), (3, .int v3)] [.int (fhb q2)] σ
    refine fhW.b_eq hΓ (tgt := 57) (show fhbk _ _ (.ifCond .eq (24)) _ = true by decide +kernel) (fun hc => ?_) (fun hc => ?_)
    · rw [if_neg hc] at h
      refine fhW.sub (lv' := [(0, .ref 0), (1, .int v1), (2, .int v2), (3, .int v3)]) [0, 1, 2, 3] rfl ?_
      exact L_X12_leavesAs_57 hΓ hd v1 v2 v3 σ _ h hk
    · rw [if_pos hc] at h
      obtain ⟨hg1, h⟩ := fhif h
      refine fhW.blk fhPM fhLL hΓ [(.aload_n 0, 0), (.getfield 153, 0), (.iload_n 3, 0), (.iaload, 0), (.iload_n 1, 0), (.iand, 0), (.iload_n 2, 0)] (pc' := 45) (lv' := [(0, .ref 0), (1, .int v1), (2, .int v2), (3, .int v3)]) (st' := [.int v2, .int ((σ.1 46 (fhix v3)) &&& v1)]) (σ' := σ) (by decide +kernel) rfl rfl hg1 ?_
      refine fhW.i_eq hΓ (tgt := 57) (show fhbk _ _ (.if_icmp .eq (12)) _ = true by decide +kernel) (fun hc => ?_) (fun hc => ?_)
      · rw [if_pos hc] at h
        refine fhW.sub (lv' := [(0, .ref 0), (1, .int v1), (2, .int v2), (3, .int v3)]) [0, 1, 2, 3] rfl ?_
        exact L_X12_leavesAs_57 hΓ hd v1 v2 v3 σ _ h hk
      · rw [if_neg hc] at h
        obtain ⟨hg2, h⟩ := fhif h
        refine fhW.blk fhPM fhLL hΓ [(.aload_n 0, 0), (.getfield 147, 0), (.iconst 2, 2), (.iload_n 3, 0), (.iadd, 0), (.iconst 0, 0), (.iastore, 0)] (pc' := 57) (lv' := [(0, .ref 0), (1, .int v1), (2, .int v2), (3, .int v3)]) (st' := []) (σ' := (fhI σ 44 (fhix ((2 : Int32) + v3)) (0 : Int32))) (by decide +kernel) rfl rfl hg2 ?_
        refine fhW.sub (lv' := [(0, .ref 0), (1, .int v1), (2, .int v2), (3, .int v3)]) [0, 1, 2, 3] rfl ?_
        exact L_X12_leavesAs_57 hΓ hd v1 v2 v3 (fhI σ 44 (fhix ((2 : Int32) + v3)) (0 : Int32)) _ h hk
set_option maxRecDepth 100000 in
set_option maxHeartbeats 4000000 in
theorem L_X12_leavesAs_E {Γ : fhX} (hΓ : fhOk fhYM 12 cX12_leavesAs 4 (some .int) Γ) (hd : 3 ≤ fhD Γ) (v1 : Int32)  (σ : fhM) (o : Int32 × fhM) (h : f_X12_leavesAs v1 σ = some o) (hk : (fun o => fhRet Γ (some (.int o.1)) o.2) o) : fhW fhYM Γ 0 [(0, .ref 0), (1, .int v1)] [] σ := by
  unfold f_X12_leavesAs at h
  refine fhW.blk fhPM fhLL hΓ [(.aload_n 0, 0)] (pc' := 1) (lv' := [(0, .ref 0), (1, .int v1)]) (st' := [.ref 0]) (σ' := σ) (by decide +kernel) rfl rfl rfl ?_
  obtain ⟨q1, hb2, h⟩ := Option.bind_eq_some_iff.mp h
  refine fhW.callv hΓ mvX12_laysKnowing ml_12_490 (t := 0) (ci := 12) (av := []) (rest := []) (r := none) (σ' := q1) (T_X12_laysKnowing (E := fhEn Γ) (d := fhD Γ - 1) (by omega) σ hb2) (by omega) (by decide +kernel) rfl rfl rfl (Nat.le_of_ble_eq_true rfl) rfl ?_
  show fhW fhYM Γ 4 [(0, .ref 0), (1, .int v1)] [] q1
  obtain ⟨hg3, h⟩ := fhif h
  refine fhW.blk fhPM fhLL hΓ [(.aload_n 0, 0), (.getfield 153, 0), (.aload_n 0, 0), (.getfield 147, 0), (.iconst 1, 1), (.iaload, 0), (.iaload, 0), (.iload_n 1, 0), (.iand, 0), (.istore_n 2, 0), (.iconst 0, 0), (.istore_n 3, 0)] (pc' := 20) (lv' := [(3, .int (0 : Int32)), (2, .int ((q1.1 46 (fhix (q1.1 44 1))) &&& v1)), (0, .ref 0), (1, .int v1)]) (st' := []) (σ' := q1) (by decide +kernel) rfl rfl hg3 ?_
  refine fhW.sub (lv' := [(0, .ref 0), (1, .int v1), (2, .int ((q1.1 46 (fhix (q1.1 44 1))) &&& v1)), (3, .int (0 : Int32))]) [2, 3, 1, 0] rfl ?_
  exact fhlp_ok (W := (fun x => fhW fhYM Γ 20 [(0, .ref 0), (1, .int v1), (2, .int ((q1.1 46 (fhix (q1.1 44 1))) &&& v1)), (3, .int x.1)] [] x.2)) (B := (fun o => fhRet Γ (some (.int o.1)) o.2)) (fun x o h hk => L_X12_leavesAs_20 hΓ hd v1 ((q1.1 46 (fhix (q1.1 44 1))) &&& v1) x.1 x.2 o h hk) ((0 : Int32), q1) _ h hk
set_option maxRecDepth 100000 in
theorem T_X12_leavesAs {E : fhE} {d : Nat} (hd : 3 ≤ d) (v1 : Int32)  (σ : fhM) {o : Int32 × fhM} (h : f_X12_leavesAs v1 σ = some o) : fhC fhYM E d miX12_leavesAs [.ref 0, .int v1] σ (some (.int o.1)) o.2 := by
  refine fhC.of (y := yX12_leavesAs) (cc := cX12_leavesAs) (nL := 4) (ret := (some .int)) 12 rfl (by decide +kernel) (Nat.le_of_ble_eq_true rfl) ?_
  intro Γ hΓ hR hD hEn
  subst hD; subst hEn
  exact L_X12_leavesAs_E hΓ hd v1  σ _ h hR
set_option maxRecDepth 100000 in
set_option maxHeartbeats 4000000 in
theorem L_X12_roundGoes_E {Γ : fhX} (hΓ : fhOk fhYM 12 cX12_roundGoes 3 (some .int) Γ) (hd : 4 ≤ fhD Γ) (v1 : Int32)  (σ : fhM) (o : Int32 × fhM) (h : f_X12_roundGoes v1 σ = some o) (hk : (fun o => fhRet Γ (some (.int o.1)) o.2) o) : fhW fhYM Γ 0 [(0, .ref 0), (1, .int v1)] [] σ := by
  unfold f_X12_roundGoes at h
  refine fhW.blk fhPM fhLL hΓ [(.aload_n 0, 0), (.iload_n 1, 0)] (pc' := 2) (lv' := [(0, .ref 0), (1, .int v1)]) (st' := [.int v1, .ref 0]) (σ' := σ) (by decide +kernel) rfl rfl rfl ?_
  obtain ⟨q1, hb1, h⟩ := Option.bind_eq_some_iff.mp h
  refine fhW.callv hΓ mvX12_leavesAs ml_12_493 (t := 0) (ci := 12) (av := [.int v1]) (rest := []) (r := (some (.int q1.1))) (σ' := q1.2) (T_X12_leavesAs (E := fhEn Γ) (d := fhD Γ - 1) (by omega) v1 σ hb1) (by omega) (by decide +kernel) rfl rfl rfl (Nat.le_of_ble_eq_true rfl) rfl ?_
  show fhW fhYM Γ 5 [(0, .ref 0), (1, .int v1)] [.int q1.1] q1.2
  refine fhW.blk fhPM fhLL hΓ [(.istore_n 2, 0), (.aload_n 0, 0), (.getfield 147, 0), (.iconst 0, 0), (.dup2, 0), (.iaload, 0), (.iconst 1, 1), (.iadd, 0), (.iastore, 0), (.aload_n 0, 0), (.iconst 0, 0), (.iconst 0, 0), (.iload_n 2, 0)] (pc' := 20) (lv' := [(2, .int q1.1), (0, .ref 0), (1, .int v1)]) (st' := [.int q1.1, .int (0 : Int32), .int (0 : Int32), .ref 0]) (σ' := (fhI q1.2 44 0 ((q1.2.1 44 0) + (1 : Int32)))) (by decide +kernel) rfl rfl rfl ?_
  obtain ⟨q2, hb2, h⟩ := Option.bind_eq_some_iff.mp h
  refine fhW.callv hΓ mvX12_isKept ml_12_496 (t := 0) (ci := 12) (av := [.int (0 : Int32), .int (0 : Int32), .int q1.1]) (rest := []) (r := none) (σ' := q2) (T_X12_isKept (E := fhEn Γ) (d := fhD Γ - 1) (by omega) (0 : Int32) (0 : Int32) q1.1 (fhI q1.2 44 0 ((q1.2.1 44 0) + (1 : Int32))) hb2) (by omega) (by decide +kernel) rfl rfl rfl (Nat.le_of_ble_eq_true rfl) rfl ?_
  show fhW fhYM Γ 23 [(2, .int q1.1), (0, .ref 0), (1, .int v1)] [] q2
  refine fhW.blk fhPM fhLL hΓ [(.iload_n 2, 0)] (pc' := 24) (lv' := [(2, .int q1.1), (0, .ref 0), (1, .int v1)]) (st' := [.int q1.1]) (σ' := q2) (by decide +kernel) rfl rfl rfl ?_
  have e9 := Option.some.inj h
  subst e9
  exact fhW.iret hΓ (by decide +kernel) hk
set_option maxRecDepth 100000 in
theorem T_X12_roundGoes {E : fhE} {d : Nat} (hd : 4 ≤ d) (v1 : Int32)  (σ : fhM) {o : Int32 × fhM} (h : f_X12_roundGoes v1 σ = some o) : fhC fhYM E d miX12_roundGoes [.ref 0, .int v1] σ (some (.int o.1)) o.2 := by
  refine fhC.of (y := yX12_roundGoes) (cc := cX12_roundGoes) (nL := 3) (ret := (some .int)) 12 rfl (by decide +kernel) (Nat.le_of_ble_eq_true rfl) ?_
  intro Γ hΓ hR hD hEn
  subst hD; subst hEn
  exact L_X12_roundGoes_E hΓ hd v1  σ _ h hR
set_option maxRecDepth 100000 in
set_option maxHeartbeats 4000000 in
theorem L_X12_has_E {Γ : fhX} (hΓ : fhOk fhYM 12 cX12_has 2 (some .int) Γ) (hd : 5 ≤ fhD Γ) (v1 : Int32)  (σ : fhM) (o : Int32 × fhM) (h : f_X12_has v1 σ = some o) (hk : (fun o => fhRet Γ (some (.int o.1)) o.2) o) : fhW fhYM Γ 0 [(0, .ref 0), (1, .int v1)] [] σ := by
  unfold f_X12_has at h
  refine fhW.blk fhPM fhLL hΓ [(.iload_n 1, 0)] (pc' := 1) (lv' := [(0, .ref 0), (1, .int v1)]) (st' := [.int v1]) (σ' := σ) (by decide +kernel) rfl rfl rfl ?_
  refine fhW.tsw hΓ (dflt := 123) (lo := 0) (hi := 10) (offs := #[59, 59, 59, 59, 68, 75, 91, 96, 104, 113, 118]) (len := 59) (td := 124) [(0, 60), (1, 60), (2, 60), (3, 60), (4, 69), (5, 76), (6, 92), (7, 97), (8, 105), (9, 114), (10, 119)] (by decide +kernel) ?_
  refine fhsw_c (fun hc => ?_) (fun hc => ?_)
  · rw [if_pos hc] at h
    obtain ⟨hg1, h⟩ := fhif h
    refine fhW.blk fhPM fhLL hΓ [(.aload_n 0, 0), (.getfield 99, 0), (.iconst 5, 5), (.iload_n 1, 0), (.iadd, 0), (.iaload, 0)] (pc' := 68) (lv' := [(0, .ref 0), (1, .int v1)]) (st' := [.int (σ.1 29 (fhix ((5 : Int32) + v1)))]) (σ' := σ) (by decide +kernel) rfl rfl hg1 ?_
    have e9 := Option.some.inj h
    subst e9
    exact fhW.iret hΓ (by decide +kernel) hk
  rw [if_neg hc] at h
  refine fhsw_c (fun hc => ?_) (fun hc => ?_)
  · rw [if_pos hc] at h
    obtain ⟨hg2, h⟩ := fhif h
    refine fhW.blk fhPM fhLL hΓ [(.aload_n 0, 0), (.getfield 99, 0), (.iconst 5, 5), (.iload_n 1, 0), (.iadd, 0), (.iaload, 0)] (pc' := 68) (lv' := [(0, .ref 0), (1, .int v1)]) (st' := [.int (σ.1 29 (fhix ((5 : Int32) + v1)))]) (σ' := σ) (by decide +kernel) rfl rfl hg2 ?_
    have e9 := Option.some.inj h
    subst e9
    exact fhW.iret hΓ (by decide +kernel) hk
  rw [if_neg hc] at h
  refine fhsw_c (fun hc => ?_) (fun hc => ?_)
  · rw [if_pos hc] at h
    obtain ⟨hg3, h⟩ := fhif h
    refine fhW.blk fhPM fhLL hΓ [(.aload_n 0, 0), (.getfield 99, 0), (.iconst 5, 5), (.iload_n 1, 0), (.iadd, 0), (.iaload, 0)] (pc' := 68) (lv' := [(0, .ref 0), (1, .int v1)]) (st' := [.int (σ.1 29 (fhix ((5 : Int32) + v1)))]) (σ' := σ) (by decide +kernel) rfl rfl hg3 ?_
    have e9 := Option.some.inj h
    subst e9
    exact fhW.iret hΓ (by decide +kernel) hk
  rw [if_neg hc] at h
  refine fhsw_c (fun hc => ?_) (fun hc => ?_)
  · rw [if_pos hc] at h
    obtain ⟨hg4, h⟩ := fhif h
    refine fhW.blk fhPM fhLL hΓ [(.aload_n 0, 0), (.getfield 99, 0), (.iconst 5, 5), (.iload_n 1, 0), (.iadd, 0), (.iaload, 0)] (pc' := 68) (lv' := [(0, .ref 0), (1, .int v1)]) (st' := [.int (σ.1 29 (fhix ((5 : Int32) + v1)))]) (σ' := σ) (by decide +kernel) rfl rfl hg4 ?_
    have e9 := Option.some.inj h
    subst e9
    exact fhW.iret hΓ (by decide +kernel) hk
  rw [if_neg hc] at h
  refine fhsw_c (fun hc => ?_) (fun hc => ?_)
  · rw [if_pos hc] at h
    refine fhW.blk fhPM fhLL hΓ [(.aload_n 0, 0), (.getfield 147, 0), (.iconst 0, 0), (.iaload, 0)] (pc' := 75) (lv' := [(0, .ref 0), (1, .int v1)]) (st' := [.int (σ.1 44 0)]) (σ' := σ) (by decide +kernel) rfl rfl rfl ?_
    have e9 := Option.some.inj h
    subst e9
    exact fhW.iret hΓ (by decide +kernel) hk
  rw [if_neg hc] at h
  refine fhsw_c (fun hc => ?_) (fun hc => ?_)
  · rw [if_pos hc] at h
    refine fhW.blk fhPM fhLL hΓ [(.aload_n 0, 0), (.getfield 441, 0)] (pc' := 80) (lv' := [(0, .ref 0), (1, .int v1)]) (st' := [.int (σ.1 0 47)]) (σ' := σ) (by decide +kernel) rfl rfl rfl ?_
    refine fhW.z_eq hΓ (tgt := 90) (show fhbk _ _ (.ifCond .eq (10)) _ = true by decide +kernel) (fun hc => ?_) (fun hc => ?_)
    · rw [if_pos hc] at h
      refine fhW.blk fhPM fhLL hΓ [(.iconst 0, 0)] (pc' := 91) (lv' := [(0, .ref 0), (1, .int v1)]) (st' := [.int (0 : Int32)]) (σ' := σ) (by decide +kernel) rfl rfl rfl ?_
      have e9 := Option.some.inj h
      subst e9
      exact fhW.iret hΓ (by decide +kernel) hk
    · rw [if_neg hc] at h
      refine fhW.blk fhPM fhLL hΓ [(.aload_n 0, 0)] (pc' := 84) (lv' := [(0, .ref 0), (1, .int v1)]) (st' := [.ref 0]) (σ' := σ) (by decide +kernel) rfl rfl rfl ?_
      obtain ⟨q1, hb1, h⟩ := Option.bind_eq_some_iff.mp h
      refine fhW.callv hΓ mvX12_leftMany ml_12_487 (t := 0) (ci := 12) (av := []) (rest := []) (r := (some (.int q1))) (σ' := σ) (T_X12_leftMany (E := fhEn Γ) (d := fhD Γ - 1) (by omega) σ hb1) (by omega) (by decide +kernel) rfl rfl rfl (Nat.le_of_ble_eq_true rfl) rfl ?_
      show fhW fhYM Γ 87 [(0, .ref 0), (1, .int v1)] [.int q1] σ
      refine fhW.goto hΓ (off := 4) (tgt := 91) (by decide +kernel) ?_
      have e9 := Option.some.inj h
      subst e9
      exact fhW.iret hΓ (by decide +kernel) hk
  rw [if_neg hc] at h
  refine fhsw_c (fun hc => ?_) (fun hc => ?_)
  · rw [if_pos hc] at h
    refine fhW.blk fhPM fhLL hΓ [(.aload_n 0, 0), (.getfield 438, 0)] (pc' := 96) (lv' := [(0, .ref 0), (1, .int v1)]) (st' := [.int (σ.1 0 53)]) (σ' := σ) (by decide +kernel) rfl rfl rfl ?_
    have e9 := Option.some.inj h
    subst e9
    exact fhW.iret hΓ (by decide +kernel) hk
  rw [if_neg hc] at h
  refine fhsw_c (fun hc => ?_) (fun hc => ?_)
  · rw [if_pos hc] at h
    refine fhW.blk fhPM fhLL hΓ [(.aload_n 0, 0)] (pc' := 98) (lv' := [(0, .ref 0), (1, .int v1)]) (st' := [.ref 0]) (σ' := σ) (by decide +kernel) rfl rfl rfl ?_
    obtain ⟨q2, hb2, h⟩ := Option.bind_eq_some_iff.mp h
    refine fhW.callv hΓ mvX12_knowersNow ml_12_499 (t := 0) (ci := 12) (av := []) (rest := []) (r := (some (.int q2.1))) (σ' := q2.2) (T_X12_knowersNow (E := fhEn Γ) (d := fhD Γ - 1) (by omega) σ hb2) (by omega) (by decide +kernel) rfl rfl rfl (Nat.le_of_ble_eq_true rfl) rfl ?_
    show fhW fhYM Γ 101 [(0, .ref 0), (1, .int v1)] [.int q2.1] q2.2
    obtain ⟨q3, hb3, h⟩ := Option.bind_eq_some_iff.mp h
    refine fhW.calls hΓ msX12_bits ml_12_502 (av := [.int q2.1]) (rest := []) (r := (some (.int q3))) (σ' := q2.2) (T_X12_bits (E := fhEn Γ) (d := fhD Γ - 1) (by omega) q2.1 q2.2 hb3) (by omega) (by decide +kernel) rfl (Nat.le_of_ble_eq_true rfl) rfl ?_
    show fhW fhYM Γ 104 [(0, .ref 0), (1, .int v1)] [.int q3] q2.2
    have e9 := Option.some.inj h
    subst e9
    exact fhW.iret hΓ (by decide +kernel) hk
  rw [if_neg hc] at h
  refine fhsw_c (fun hc => ?_) (fun hc => ?_)
  · rw [if_pos hc] at h
    refine fhW.blk fhPM fhLL hΓ [(.aload_n 0, 0), (.getfield 147, 0), (.sipush 1026, 1026), (.iaload, 0)] (pc' := 113) (lv' := [(0, .ref 0), (1, .int v1)]) (st' := [.int (σ.1 44 1026)]) (σ' := σ) (by decide +kernel) rfl rfl rfl ?_
    have e9 := Option.some.inj h
    subst e9
    exact fhW.iret hΓ (by decide +kernel) hk
  rw [if_neg hc] at h
  refine fhsw_c (fun hc => ?_) (fun hc => ?_)
  · rw [if_pos hc] at h
    refine fhW.blk fhPM fhLL hΓ [(.aload_n 0, 0), (.getfield 457, 0)] (pc' := 118) (lv' := [(0, .ref 0), (1, .int v1)]) (st' := [.int (σ.1 0 68)]) (σ' := σ) (by decide +kernel) rfl rfl rfl ?_
    have e9 := Option.some.inj h
    subst e9
    exact fhW.iret hΓ (by decide +kernel) hk
  rw [if_neg hc] at h
  refine fhsw_c (fun hc => ?_) (fun hc => ?_)
  · rw [if_pos hc] at h
    refine fhW.blk fhPM fhLL hΓ [(.aload_n 0, 0), (.getfield 454, 0)] (pc' := 123) (lv' := [(0, .ref 0), (1, .int v1)]) (st' := [.int (σ.1 0 71)]) (σ' := σ) (by decide +kernel) rfl rfl rfl ?_
    have e9 := Option.some.inj h
    subst e9
    exact fhW.iret hΓ (by decide +kernel) hk
  rw [if_neg hc] at h
  refine fhsw_n ?_
  refine fhW.blk fhPM fhLL hΓ [(.iconst (-1), -1)] (pc' := 125) (lv' := [(0, .ref 0), (1, .int v1)]) (st' := [.int (-1 : Int32)]) (σ' := σ) (by decide +kernel) rfl rfl rfl ?_
  have e9 := Option.some.inj h
  subst e9
  exact fhW.iret hΓ (by decide +kernel) hk
set_option maxRecDepth 100000 in
theorem T_X12_has {E : fhE} {d : Nat} (hd : 5 ≤ d) (v1 : Int32)  (σ : fhM) {o : Int32 × fhM} (h : f_X12_has v1 σ = some o) : fhC fhYM E d miX12_has [.ref 0, .int v1] σ (some (.int o.1)) o.2 := by
  refine fhC.of (y := yX12_has) (cc := cX12_has) (nL := 2) (ret := (some .int)) 12 rfl (by decide +kernel) (Nat.le_of_ble_eq_true rfl) ?_
  intro Γ hΓ hR hD hEn
  subst hD; subst hEn
  exact L_X12_has_E hΓ hd v1  σ _ h hR
set_option maxRecDepth 100000 in
set_option maxHeartbeats 4000000 in
theorem L_X12_letter_73 {Γ : fhX} (hΓ : fhOk fhYM 12 cX12_letter 8 (some .int) Γ) (hd : 2 ≤ fhD Γ) (v2 : Int32) (v3 : Int64) (v6 : Int32)  (σ : fhM) (o : (Int64 × Int32) ⊕ (Int32)) (h : f_X12_letter_73 v2 v3 v6 σ = some o) (hk : (fhK (fun x => fhW fhYM Γ 73 [(2, .int v2), (3, .long x.1), (6, .int x.2)] [] σ) (fun o => fhRet Γ (some (.int o)) σ)) o) : fhW fhYM Γ 73 [(2, .int v2), (3, .long v3), (6, .int v6)] [] σ := by
  unfold f_X12_letter_73 at h
  refine fhW.blk fhPM fhLL hΓ [(.iload 6, 0), (.iload_n 2, 0)] (pc' := 76) (lv' := [(2, .int v2), (3, .long v3), (6, .int v6)]) (st' := [.int v2, .int v6]) (σ' := σ) (by decide +kernel) rfl rfl rfl ?_
  refine fhW.i_le hΓ (tgt := 91) (show fhbk _ _ (.if_icmp .le (15)) _ = true by decide +kernel) (fun hc => ?_) (fun hc => ?_)
  · rw [if_pos hc] at h
    refine fhW.blk fhPM fhLL hΓ [(.lload_n 3, 0), (.ldc2_w 316, 0), (.lrem, 0), (.l2i, 0)] (pc' := 97) (lv' := [(2, .int v2), (3, .long v3), (6, .int v6)]) (st' := [.int (Int64.toInt32 (fhreml v3 (27 : Int64)))]) (σ' := σ) (by decide +kernel) rfl rfl rfl ?_
    have e9 := Option.some.inj h
    subst e9
    exact fhW.iret hΓ (by decide +kernel) hk
  · rw [if_neg hc] at h
    refine fhW.blk fhPM fhLL hΓ [(.lload_n 3, 0), (.ldc2_w 316, 0), (.ldiv, 0), (.lstore_n 3, 0), (.iinc 6 (-1), -1)] (pc' := 88) (lv' := [(6, .int (v6 + (-1 : Int32))), (3, .long (v3 / (27 : Int64))), (2, .int v2)]) (st' := []) (σ' := σ) (by decide +kernel) rfl rfl rfl ?_
    refine fhW.goto hΓ (off := (-15)) (tgt := 73) (by decide +kernel) ?_
    refine fhW.sub (lv' := [(2, .int v2), (3, .long (v3 / (27 : Int64))), (6, .int (v6 + (-1 : Int32)))]) [2, 1, 0] rfl ?_
    have e9 := Option.some.inj h
    subst e9
    exact hk
set_option maxRecDepth 100000 in
set_option maxHeartbeats 4000000 in
theorem L_X12_letter_38 {Γ : fhX} (hΓ : fhOk fhYM 12 cX12_letter 8 (some .int) Γ) (hd : 2 ≤ fhD Γ) (v2 : Int32) (v3 : Int64) (v5 : Int32) (v6 : Int64)  (σ : fhM) (o : (Int32 × Int64) ⊕ (Int32)) (h : f_X12_letter_38 v2 v3 v5 v6 σ = some o) (hk : (fhK (fun x => fhW fhYM Γ 38 [(2, .int v2), (3, .long v3), (5, .int x.1), (6, .long x.2)] [] σ) (fun o => fhRet Γ (some (.int o)) σ)) o) : fhW fhYM Γ 38 [(2, .int v2), (3, .long v3), (5, .int v5), (6, .long v6)] [] σ := by
  unfold f_X12_letter_38 at h
  refine fhW.blk fhPM fhLL hΓ [(.lload 6, 0), (.lconst 0, 0), (.lcmp, 0)] (pc' := 42) (lv' := [(2, .int v2), (3, .long v3), (5, .int v5), (6, .long v6)]) (st' := [.int (lg_cmp v6 (0 : Int64))]) (σ' := σ) (by decide +kernel) rfl rfl rfl ?_
  refine fhW.z_le hΓ (tgt := 59) (show fhbk _ _ (.ifCond .le (17)) _ = true by decide +kernel) (fun hc => ?_) (fun hc => ?_)
  · rw [if_pos hc] at h
    refine fhW.blk fhPM fhLL hΓ [(.iload_n 2, 0), (.iload 5, 0)] (pc' := 62) (lv' := [(2, .int v2), (3, .long v3), (5, .int v5), (6, .long v6)]) (st' := [.int v5, .int v2]) (σ' := σ) (by decide +kernel) rfl rfl rfl ?_
    refine fhW.i_lt hΓ (tgt := 67) (show fhbk _ _ (.if_icmp .lt (5)) _ = true by decide +kernel) (fun hc => ?_) (fun hc => ?_)
    · rw [if_pos hc] at h
      refine fhW.blk fhPM fhLL hΓ [(.iload 5, 0), (.iconst 1, 1), (.isub, 0), (.istore 6, 0)] (pc' := 73) (lv' := [(6, .int (v5 - (1 : Int32))), (2, .int v2), (3, .long v3), (5, .int v5)]) (st' := []) (σ' := σ) (by decide +kernel) rfl rfl rfl ?_
      refine fhW.sub (lv' := [(2, .int v2), (3, .long v3), (6, .int (v5 - (1 : Int32)))]) [1, 2, 0] rfl ?_
      obtain ⟨z1, hz, e1⟩ := Option.map_eq_some_iff.mp h
      clear h
      subst e1
      have h := hz
      have hk : (fun o => fhRet Γ (some (.int o)) σ) z1 := hk
      exact fhlp_ok (W := (fun x => fhW fhYM Γ 73 [(2, .int v2), (3, .long x.1), (6, .int x.2)] [] σ)) (B := (fun o => fhRet Γ (some (.int o)) σ)) (fun x o h hk => L_X12_letter_73 hΓ hd v2 x.1 x.2 σ o h hk) (v3, (v5 - (1 : Int32))) _ h hk
    · rw [if_neg hc] at h
      refine fhW.blk fhPM fhLL hΓ [(.iconst 0, 0)] (pc' := 66) (lv' := [(2, .int v2), (3, .long v3), (5, .int v5), (6, .long v6)]) (st' := [.int (0 : Int32)]) (σ' := σ) (by decide +kernel) rfl rfl rfl ?_
      have e9 := Option.some.inj h
      subst e9
      exact fhW.iret hΓ (by decide +kernel) hk
  · rw [if_neg hc] at h
    refine fhW.blk fhPM fhLL hΓ [(.iinc 5 1, 1), (.lload 6, 0), (.ldc2_w 316, 0), (.ldiv, 0), (.lstore 6, 0)] (pc' := 56) (lv' := [(6, .long (v6 / (27 : Int64))), (5, .int (v5 + (1 : Int32))), (2, .int v2), (3, .long v3)]) (st' := []) (σ' := σ) (by decide +kernel) rfl rfl rfl ?_
    refine fhW.goto hΓ (off := (-18)) (tgt := 38) (by decide +kernel) ?_
    refine fhW.sub (lv' := [(2, .int v2), (3, .long v3), (5, .int (v5 + (1 : Int32))), (6, .long (v6 / (27 : Int64)))]) [2, 3, 1, 0] rfl ?_
    have e9 := Option.some.inj h
    subst e9
    exact hk
set_option maxRecDepth 100000 in
set_option maxHeartbeats 4000000 in
theorem L_X12_letter_E {Γ : fhX} (hΓ : fhOk fhYM 12 cX12_letter 8 (some .int) Γ) (hd : 2 ≤ fhD Γ) (v1 : Int32) (v2 : Int32)  (σ : fhM) (o : Int32) (h : f_X12_letter v1 v2 σ = some o) (hk : (fun o => fhRet Γ (some (.int o)) σ) o) : fhW fhYM Γ 0 [(0, .ref 0), (1, .int v1), (2, .int v2)] [] σ := by
  unfold f_X12_letter at h
  refine fhW.blk fhPM fhLL hΓ [(.aload_n 0, 0), (.iload_n 1, 0), (.i2l, 0)] (pc' := 3) (lv' := [(0, .ref 0), (1, .int v1), (2, .int v2)]) (st' := [.long (Int32.toInt64 v1), .ref 0]) (σ' := σ) (by decide +kernel) rfl rfl rfl ?_
  refine fhW.callv hΓ mvX12_isGuest ml_12_505 (t := 0) (ci := 12) (av := [.long (Int32.toInt64 v1)]) (rest := []) (r := (some (.int (fhb (f_X12_isGuest (Int32.toInt64 v1) σ))))) (σ' := σ) (T_X12_isGuest (E := fhEn Γ) (d := fhD Γ - 1) (by omega) (Int32.toInt64 v1) σ) (by omega) (by decide +kernel) rfl rfl rfl (Nat.le_of_ble_eq_true rfl) rfl ?_
  show fhW fhYM Γ 6 [(0, .ref 0), (1, .int v1), (2, .int v2)] [.int (fhb (f_X12_isGuest (Int32.toInt64 v1) σ))] σ
  refine fhW.b_eq hΓ (tgt := 21) (show fhbk _ _ (.ifCond .eq (15)) _ = true by decide +kernel) (fun hc => ?_) (fun hc => ?_)
  · rw [if_neg hc] at h
    refine fhW.blk fhPM fhLL hΓ [(.iconst (-1), -1)] (pc' := 22) (lv' := [(0, .ref 0), (1, .int v1), (2, .int v2)]) (st' := [.int (-1 : Int32)]) (σ' := σ) (by decide +kernel) rfl rfl rfl ?_
    have e9 := Option.some.inj h
    subst e9
    exact fhW.iret hΓ (by decide +kernel) hk
  · rw [if_pos hc] at h
    refine fhW.blk fhPM fhLL hΓ [(.iload_n 2, 0), (.i2l, 0), (.lconst 0, 0), (.ldc2_w 509, 0)] (pc' := 15) (lv' := [(0, .ref 0), (1, .int v1), (2, .int v2)]) (st' := [.long (5 : Int64), .long (0 : Int64), .long (Int32.toInt64 v2)]) (σ' := σ) (by decide +kernel) rfl rfl rfl ?_
    refine fhW.calls hΓ msX12_isIn ml_12_305 (av := [.long (Int32.toInt64 v2), .long (0 : Int64), .long (5 : Int64)]) (rest := []) (r := (some (.int (fhb (f_X12_isIn (Int32.toInt64 v2) (0 : Int64) (5 : Int64) σ))))) (σ' := σ) (T_X12_isIn (E := fhEn Γ) (d := fhD Γ - 1) (by omega) (Int32.toInt64 v2) (0 : Int64) (5 : Int64) σ) (by omega) (by decide +kernel) rfl (Nat.le_of_ble_eq_true rfl) rfl ?_
    show fhW fhYM Γ 18 [(0, .ref 0), (1, .int v1), (2, .int v2)] [.int (fhb (f_X12_isIn (Int32.toInt64 v2) (0 : Int64) (5 : Int64) σ))] σ
    refine fhW.b_ne hΓ (tgt := 23) (show fhbk _ _ (.ifCond .ne (5)) _ = true by decide +kernel) (fun hc => ?_) (fun hc => ?_)
    · rw [if_pos hc] at h
      obtain ⟨hg1, h⟩ := fhif h
      refine fhW.blk fhPM fhLL hΓ [(.aload_n 0, 0), (.getfield 102, 0), (.iconst 5, 5), (.iload_n 1, 0), (.iadd, 0), (.laload, 0), (.lstore_n 3, 0), (.iconst 0, 0), (.istore 5, 0), (.lload_n 3, 0), (.lstore 6, 0)] (pc' := 38) (lv' := [(6, .long (σ.2.1 30 (fhix ((5 : Int32) + v1)))), (5, .int (0 : Int32)), (3, .long (σ.2.1 30 (fhix ((5 : Int32) + v1)))), (0, .ref 0), (1, .int v1), (2, .int v2)]) (st' := []) (σ' := σ) (by decide +kernel) rfl rfl hg1 ?_
      refine fhW.sub (lv' := [(2, .int v2), (3, .long (σ.2.1 30 (fhix ((5 : Int32) + v1)))), (5, .int (0 : Int32)), (6, .long (σ.2.1 30 (fhix ((5 : Int32) + v1))))]) [5, 2, 1, 0] rfl ?_
      exact fhlp_ok (W := (fun x => fhW fhYM Γ 38 [(2, .int v2), (3, .long (σ.2.1 30 (fhix ((5 : Int32) + v1)))), (5, .int x.1), (6, .long x.2)] [] σ)) (B := (fun o => fhRet Γ (some (.int o)) σ)) (fun x o h hk => L_X12_letter_38 hΓ hd v2 (σ.2.1 30 (fhix ((5 : Int32) + v1))) x.1 x.2 σ o h hk) ((0 : Int32), (σ.2.1 30 (fhix ((5 : Int32) + v1)))) _ h hk
    · rw [if_neg hc] at h
      refine fhW.blk fhPM fhLL hΓ [(.iconst (-1), -1)] (pc' := 22) (lv' := [(0, .ref 0), (1, .int v1), (2, .int v2)]) (st' := [.int (-1 : Int32)]) (σ' := σ) (by decide +kernel) rfl rfl rfl ?_
      have e9 := Option.some.inj h
      subst e9
      exact fhW.iret hΓ (by decide +kernel) hk
set_option maxRecDepth 100000 in
theorem T_X12_letter {E : fhE} {d : Nat} (hd : 2 ≤ d) (v1 : Int32) (v2 : Int32)  (σ : fhM) {o : Int32} (h : f_X12_letter v1 v2 σ = some o) : fhC fhYM E d miX12_letter [.ref 0, .int v1, .int v2] σ (some (.int o)) σ := by
  refine fhC.of (y := yX12_letter) (cc := cX12_letter) (nL := 8) (ret := (some .int)) 12 rfl (by decide +kernel) (Nat.le_of_ble_eq_true rfl) ?_
  intro Γ hΓ hR hD hEn
  subst hD; subst hEn
  exact L_X12_letter_E hΓ hd v1 v2  σ _ h hR
set_option maxRecDepth 100000 in
set_option maxHeartbeats 4000000 in
theorem L_X12_guest_E {Γ : fhX} (hΓ : fhOk fhYM 12 cX12_guest 3 (some .int) Γ) (hd : 3 ≤ fhD Γ) (v1 : Int32) (v2 : Int32)  (σ : fhM) (o : Int32 × fhM) (h : f_X12_guest v1 v2 σ = some o) (hk : (fun o => fhRet Γ (some (.int o.1)) o.2) o) : fhW fhYM Γ 0 [(0, .ref 0), (1, .int v1), (2, .int v2)] [] σ := by
  unfold f_X12_guest at h
  refine fhW.blk fhPM fhLL hΓ [(.aload_n 0, 0), (.iload_n 1, 0), (.i2l, 0)] (pc' := 3) (lv' := [(0, .ref 0), (1, .int v1), (2, .int v2)]) (st' := [.long (Int32.toInt64 v1), .ref 0]) (σ' := σ) (by decide +kernel) rfl rfl rfl ?_
  refine fhW.callv hΓ mvX12_isGuest ml_12_505 (t := 0) (ci := 12) (av := [.long (Int32.toInt64 v1)]) (rest := []) (r := (some (.int (fhb (f_X12_isGuest (Int32.toInt64 v1) σ))))) (σ' := σ) (T_X12_isGuest (E := fhEn Γ) (d := fhD Γ - 1) (by omega) (Int32.toInt64 v1) σ) (by omega) (by decide +kernel) rfl rfl rfl (Nat.le_of_ble_eq_true rfl) rfl ?_
  show fhW fhYM Γ 6 [(0, .ref 0), (1, .int v1), (2, .int v2)] [.int (fhb (f_X12_isGuest (Int32.toInt64 v1) σ))] σ
  refine fhW.b_ne hΓ (tgt := 11) (show fhbk _ _ (.ifCond .ne (5)) _ = true by decide +kernel) (fun hc => ?_) (fun hc => ?_)
  · rw [if_pos hc] at h
    refine fhW.blk fhPM fhLL hΓ [(.aload_n 0, 0), (.iload_n 1, 0)] (pc' := 13) (lv' := [(0, .ref 0), (1, .int v1), (2, .int v2)]) (st' := [.int v1, .ref 0]) (σ' := σ) (by decide +kernel) rfl rfl rfl ?_
    obtain ⟨q1, hb1, h⟩ := Option.bind_eq_some_iff.mp h
    refine fhW.callv hΓ mvX12_laysOwn ml_12_481 (t := 0) (ci := 12) (av := [.int v1]) (rest := []) (r := none) (σ' := q1) (T_X12_laysOwn (E := fhEn Γ) (d := fhD Γ - 1) (by omega) v1 σ hb1) (by omega) (by decide +kernel) rfl rfl rfl (Nat.le_of_ble_eq_true rfl) rfl ?_
    show fhW fhYM Γ 16 [(0, .ref 0), (1, .int v1), (2, .int v2)] [] q1
    refine fhW.blk fhPM fhLL hΓ [(.iload_n 2, 0)] (pc' := 17) (lv' := [(0, .ref 0), (1, .int v1), (2, .int v2)]) (st' := [.int v2]) (σ' := q1) (by decide +kernel) rfl rfl rfl ?_
    refine fhW.tsw hΓ (dflt := 88) (lo := 0) (hi := 4) (offs := #[35, 47, 56, 63, 81]) (len := 35) (td := 105) [(0, 52), (1, 64), (2, 73), (3, 80), (4, 98)] (by decide +kernel) ?_
    refine fhsw_c (fun hc => ?_) (fun hc => ?_)
    · rw [if_pos hc] at h
      refine fhW.blk fhPM fhLL hΓ [(.aload_n 0, 0), (.aload_n 0, 0), (.getfield 147, 0), (.iconst 1, 1), (.iaload, 0), (.iload_n 1, 0)] (pc' := 60) (lv' := [(0, .ref 0), (1, .int v1), (2, .int v2)]) (st' := [.int v1, .int (q1.1 44 1), .ref 0]) (σ' := q1) (by decide +kernel) rfl rfl rfl ?_
      obtain ⟨q2, hb2, h⟩ := Option.bind_eq_some_iff.mp h
      refine fhW.callv hΓ mvX12_markOf ml_12_429 (t := 0) (ci := 12) (av := [.int (q1.1 44 1), .int v1]) (rest := []) (r := (some (.int q2))) (σ' := q1) (T_X12_markOf (E := fhEn Γ) (d := fhD Γ - 1) (by omega) (q1.1 44 1) v1 q1 hb2) (by omega) (by decide +kernel) rfl rfl rfl (Nat.le_of_ble_eq_true rfl) rfl ?_
      show fhW fhYM Γ 63 [(0, .ref 0), (1, .int v1), (2, .int v2)] [.int q2] q1
      have e9 := Option.some.inj h
      subst e9
      exact fhW.iret hΓ (by decide +kernel) hk
    rw [if_neg hc] at h
    refine fhsw_c (fun hc => ?_) (fun hc => ?_)
    · rw [if_pos hc] at h
      obtain ⟨hg1, h⟩ := fhif h
      refine fhW.blk fhPM fhLL hΓ [(.aload_n 0, 0), (.getfield 109, 0), (.iconst 5, 5), (.iload_n 1, 0), (.iadd, 0), (.iaload, 0)] (pc' := 72) (lv' := [(0, .ref 0), (1, .int v1), (2, .int v2)]) (st' := [.int (q1.1 32 (fhix ((5 : Int32) + v1)))]) (σ' := q1) (by decide +kernel) rfl rfl hg1 ?_
      have e9 := Option.some.inj h
      subst e9
      exact fhW.iret hΓ (by decide +kernel) hk
    rw [if_neg hc] at h
    refine fhsw_c (fun hc => ?_) (fun hc => ?_)
    · rw [if_pos hc] at h
      obtain ⟨hg2, h⟩ := fhif h
      refine fhW.blk fhPM fhLL hΓ [(.aload_n 0, 0), (.getfield 156, 0), (.iload_n 1, 0), (.iaload, 0)] (pc' := 79) (lv' := [(0, .ref 0), (1, .int v1), (2, .int v2)]) (st' := [.int (q1.1 47 (fhix v1))]) (σ' := q1) (by decide +kernel) rfl rfl hg2 ?_
      have e9 := Option.some.inj h
      subst e9
      exact fhW.iret hΓ (by decide +kernel) hk
    rw [if_neg hc] at h
    refine fhsw_c (fun hc => ?_) (fun hc => ?_)
    · rw [if_pos hc] at h
      obtain ⟨hg3, h⟩ := fhif h
      refine fhW.blk fhPM fhLL hΓ [(.aload_n 0, 0), (.getfield 159, 0), (.iload_n 1, 0), (.iaload, 0)] (pc' := 86) (lv' := [(0, .ref 0), (1, .int v1), (2, .int v2)]) (st' := [.int (q1.1 48 (fhix v1))]) (σ' := q1) (by decide +kernel) rfl rfl hg3 ?_
      refine fhW.calls hΓ msX12_isOne ml_12_460 (av := [.int (q1.1 48 (fhix v1))]) (rest := []) (r := (some (.int (fhb (f_X12_isOne (q1.1 48 (fhix v1)) q1))))) (σ' := q1) (T_X12_isOne (E := fhEn Γ) (d := fhD Γ - 1) (by omega) (q1.1 48 (fhix v1)) q1) (by omega) (by decide +kernel) rfl (Nat.le_of_ble_eq_true rfl) rfl ?_
      show fhW fhYM Γ 89 [(0, .ref 0), (1, .int v1), (2, .int v2)] [.int (fhb (f_X12_isOne (q1.1 48 (fhix v1)) q1))] q1
      refine fhW.b_eq hΓ (tgt := 96) (show fhbk _ _ (.ifCond .eq (7)) _ = true by decide +kernel) (fun hc => ?_) (fun hc => ?_)
      · rw [if_neg hc] at h
        refine fhW.blk fhPM fhLL hΓ [(.iconst 0, 0)] (pc' := 97) (lv' := [(0, .ref 0), (1, .int v1), (2, .int v2)]) (st' := [.int (0 : Int32)]) (σ' := q1) (by decide +kernel) rfl rfl rfl ?_
        have e9 := Option.some.inj h
        subst e9
        exact fhW.iret hΓ (by decide +kernel) hk
      · rw [if_pos hc] at h
        refine fhW.blk fhPM fhLL hΓ [(.iconst 1, 1)] (pc' := 93) (lv' := [(0, .ref 0), (1, .int v1), (2, .int v2)]) (st' := [.int (1 : Int32)]) (σ' := q1) (by decide +kernel) rfl rfl rfl ?_
        refine fhW.goto hΓ (off := 4) (tgt := 97) (by decide +kernel) ?_
        have e9 := Option.some.inj h
        subst e9
        exact fhW.iret hΓ (by decide +kernel) hk
    rw [if_neg hc] at h
    refine fhsw_c (fun hc => ?_) (fun hc => ?_)
    · rw [if_pos hc] at h
      obtain ⟨hg4, h⟩ := fhif h
      refine fhW.blk fhPM fhLL hΓ [(.aload_n 0, 0), (.getfield 159, 0), (.iload_n 1, 0), (.iaload, 0)] (pc' := 104) (lv' := [(0, .ref 0), (1, .int v1), (2, .int v2)]) (st' := [.int (q1.1 48 (fhix v1))]) (σ' := q1) (by decide +kernel) rfl rfl hg4 ?_
      have e9 := Option.some.inj h
      subst e9
      exact fhW.iret hΓ (by decide +kernel) hk
    rw [if_neg hc] at h
    refine fhsw_n ?_
    refine fhW.blk fhPM fhLL hΓ [(.iconst (-1), -1)] (pc' := 106) (lv' := [(0, .ref 0), (1, .int v1), (2, .int v2)]) (st' := [.int (-1 : Int32)]) (σ' := q1) (by decide +kernel) rfl rfl rfl ?_
    have e9 := Option.some.inj h
    subst e9
    exact fhW.iret hΓ (by decide +kernel) hk
  · rw [if_neg hc] at h
    refine fhW.blk fhPM fhLL hΓ [(.iconst (-1), -1)] (pc' := 10) (lv' := [(0, .ref 0), (1, .int v1), (2, .int v2)]) (st' := [.int (-1 : Int32)]) (σ' := σ) (by decide +kernel) rfl rfl rfl ?_
    have e9 := Option.some.inj h
    subst e9
    exact fhW.iret hΓ (by decide +kernel) hk
set_option maxRecDepth 100000 in
theorem T_X12_guest {E : fhE} {d : Nat} (hd : 3 ≤ d) (v1 : Int32) (v2 : Int32)  (σ : fhM) {o : Int32 × fhM} (h : f_X12_guest v1 v2 σ = some o) : fhC fhYM E d miX12_guest [.ref 0, .int v1, .int v2] σ (some (.int o.1)) o.2 := by
  refine fhC.of (y := yX12_guest) (cc := cX12_guest) (nL := 3) (ret := (some .int)) 12 rfl (by decide +kernel) (Nat.le_of_ble_eq_true rfl) ?_
  intro Γ hΓ hR hD hEn
  subst hD; subst hEn
  exact L_X12_guest_E hΓ hd v1 v2  σ _ h hR
set_option maxRecDepth 100000 in
set_option maxHeartbeats 4000000 in
theorem L_X12_isFact_E {Γ : fhX} (hΓ : fhOk fhYM 12 cX12_isFact 2 (some .boolean) Γ) (hd : 1 ≤ fhD Γ) (v1 : Int32)  (σ : fhM) (o : Bool) (h : f_X12_isFact v1 σ = o) (hk : (fun o => fhRet Γ (some (.int (fhb o))) σ) o) : fhW fhYM Γ 0 [(0, .ref 0), (1, .int v1)] [] σ := by
  unfold f_X12_isFact at h
  refine fhW.blk fhPM fhLL hΓ [(.iload_n 1, 0), (.i2l, 0), (.lconst 0, 0), (.aload_n 0, 0)] (pc' := 4) (lv' := [(0, .ref 0), (1, .int v1)]) (st' := [.ref 0, .long (0 : Int64), .long (Int32.toInt64 v1)]) (σ' := σ) (by decide +kernel) rfl rfl rfl ?_
  refine fhW.callv hΓ mvX12_factMany ml_12_511 (t := 0) (ci := 12) (av := []) (rest := [.long (0 : Int64), .long (Int32.toInt64 v1)]) (r := (some (.int (f_X12_factMany σ)))) (σ' := σ) (T_X12_factMany (E := fhEn Γ) (d := fhD Γ - 1) (by omega) σ) (by omega) (by decide +kernel) rfl rfl rfl (Nat.le_of_ble_eq_true rfl) rfl ?_
  show fhW fhYM Γ 7 [(0, .ref 0), (1, .int v1)] [.int (f_X12_factMany σ), .long (0 : Int64), .long (Int32.toInt64 v1)] σ
  refine fhW.blk fhPM fhLL hΓ [(.iconst 1, 1), (.isub, 0), (.i2l, 0)] (pc' := 10) (lv' := [(0, .ref 0), (1, .int v1)]) (st' := [.long (Int32.toInt64 ((f_X12_factMany σ) - (1 : Int32))), .long (0 : Int64), .long (Int32.toInt64 v1)]) (σ' := σ) (by decide +kernel) rfl rfl rfl ?_
  refine fhW.calls hΓ msX12_isIn ml_12_305 (av := [.long (Int32.toInt64 v1), .long (0 : Int64), .long (Int32.toInt64 ((f_X12_factMany σ) - (1 : Int32)))]) (rest := []) (r := (some (.int (fhb (f_X12_isIn (Int32.toInt64 v1) (0 : Int64) (Int32.toInt64 ((f_X12_factMany σ) - (1 : Int32))) σ))))) (σ' := σ) (T_X12_isIn (E := fhEn Γ) (d := fhD Γ - 1) (by omega) (Int32.toInt64 v1) (0 : Int64) (Int32.toInt64 ((f_X12_factMany σ) - (1 : Int32))) σ) (by omega) (by decide +kernel) rfl (Nat.le_of_ble_eq_true rfl) rfl ?_
  show fhW fhYM Γ 13 [(0, .ref 0), (1, .int v1)] [.int (fhb (f_X12_isIn (Int32.toInt64 v1) (0 : Int64) (Int32.toInt64 ((f_X12_factMany σ) - (1 : Int32))) σ))] σ
  subst h
  exact fhW.zret (v := (f_X12_isIn (Int32.toInt64 v1) (0 : Int64) (Int32.toInt64 ((f_X12_factMany σ) - (1 : Int32))) σ)) hΓ (by decide +kernel) hk
set_option maxRecDepth 100000 in
theorem T_X12_isFact {E : fhE} {d : Nat} (hd : 1 ≤ d) (v1 : Int32)  (σ : fhM) : fhC fhYM E d miX12_isFact [.ref 0, .int v1] σ (some (.int (fhb (f_X12_isFact v1 σ)))) σ := by
  refine fhC.of (y := yX12_isFact) (cc := cX12_isFact) (nL := 2) (ret := (some .boolean)) 12 rfl (by decide +kernel) (Nat.le_of_ble_eq_true rfl) ?_
  intro Γ hΓ hR hD hEn
  subst hD; subst hEn
  exact L_X12_isFact_E hΓ hd v1  σ _ rfl hR
set_option maxRecDepth 100000 in
set_option maxHeartbeats 4000000 in
theorem L_X12_doesHold_E {Γ : fhX} (hΓ : fhOk fhYM 12 cX12_doesHold 3 (some .boolean) Γ) (hd : 0 ≤ fhD Γ) (v1 : Int32) (v2 : Int32)  (σ : fhM) (o : Bool) (h : f_X12_doesHold v1 v2 σ = some o) (hk : (fun o => fhRet Γ (some (.int (fhb o))) σ) o) : fhW fhYM Γ 0 [(0, .ref 0), (1, .int v1), (2, .int v2)] [] σ := by
  unfold f_X12_doesHold at h
  obtain ⟨hg1, h⟩ := fhif h
  refine fhW.blk fhPM fhLL hΓ [(.aload_n 0, 0), (.getfield 128, 0), (.iload_n 1, 0), (.iaload, 0), (.iload_n 2, 0), (.ishr, 0), (.iconst 1, 1), (.iand, 0), (.iconst 1, 1)] (pc' := 11) (lv' := [(0, .ref 0), (1, .int v1), (2, .int v2)]) (st' := [.int (1 : Int32), .int (((σ.1 38 (fhix v1)) >>> (v2 &&& 31)) &&& (1 : Int32))]) (σ' := σ) (by decide +kernel) rfl rfl hg1 ?_
  refine fhW.i_ne hΓ (tgt := 18) (show fhbk _ _ (.if_icmp .ne (7)) _ = true by decide +kernel) (fun hc => ?_) (fun hc => ?_)
  · rw [if_neg hc] at h
    refine fhW.blk fhPM fhLL hΓ [(.iconst 0, 0)] (pc' := 19) (lv' := [(0, .ref 0), (1, .int v1), (2, .int v2)]) (st' := [.int (0 : Int32)]) (σ' := σ) (by decide +kernel) rfl rfl rfl ?_
    have e9 := Option.some.inj h
    subst e9
    exact fhW.zret (v := false) hΓ (by decide +kernel) hk
  · rw [if_pos hc] at h
    refine fhW.blk fhPM fhLL hΓ [(.iconst 1, 1)] (pc' := 15) (lv' := [(0, .ref 0), (1, .int v1), (2, .int v2)]) (st' := [.int (1 : Int32)]) (σ' := σ) (by decide +kernel) rfl rfl rfl ?_
    refine fhW.goto hΓ (off := 4) (tgt := 19) (by decide +kernel) ?_
    have e9 := Option.some.inj h
    subst e9
    exact fhW.zret (v := true) hΓ (by decide +kernel) hk
set_option maxRecDepth 100000 in
theorem T_X12_doesHold {E : fhE} {d : Nat} (hd : 0 ≤ d) (v1 : Int32) (v2 : Int32)  (σ : fhM) {o : Bool} (h : f_X12_doesHold v1 v2 σ = some o) : fhC fhYM E d miX12_doesHold [.ref 0, .int v1, .int v2] σ (some (.int (fhb o))) σ := by
  refine fhC.of (y := yX12_doesHold) (cc := cX12_doesHold) (nL := 3) (ret := (some .boolean)) 12 rfl (by decide +kernel) (Nat.le_of_ble_eq_true rfl) ?_
  intro Γ hΓ hR hD hEn
  subst hD; subst hEn
  exact L_X12_doesHold_E hΓ hd v1 v2  σ _ h hR
set_option maxRecDepth 100000 in
set_option maxHeartbeats 4000000 in
theorem L_X12_fact_114 {Γ : fhX} (hΓ : fhOk fhYM 12 cX12_fact 6 (some .int) Γ) (hd : 2 ≤ fhD Γ) (v1 : Int32) (v2 : Int32) (v3 : Int32) (v4 : Int32) (v5 : Int32)  (σ : fhM) (o : (Int32 × Int32) ⊕ (Int32)) (h : f_X12_fact_114 v1 v2 v3 v4 v5 σ = some o) (hk : (fhK (fun x => fhW fhYM Γ 54 [(0, .ref 0), (1, .int v1), (2, .int v2), (3, .int v3), (4, .int x.1), (5, .int x.2)] [] σ) (fun o => fhRet Γ (some (.int o)) σ)) o) : fhW fhYM Γ 114 [(0, .ref 0), (1, .int v1), (2, .int v2), (3, .int v3), (4, .int v4), (5, .int v5)] [] σ := by
  unfold f_X12_fact_114 at h
  refine fhW.blk fhPM fhLL hΓ [(.iinc 5 1, 1)] (pc' := 117) (lv' := [(5, .int (v5 + (1 : Int32))), (0, .ref 0), (1, .int v1), (2, .int v2), (3, .int v3), (4, .int v4)]) (st' := []) (σ' := σ) (by decide +kernel) rfl rfl rfl ?_
  refine fhW.goto hΓ (off := (-63)) (tgt := 54) (by decide +kernel) ?_
  refine fhW.sub (lv' := [(0, .ref 0), (1, .int v1), (2, .int v2), (3, .int v3), (4, .int v4), (5, .int (v5 + (1 : Int32)))]) [1, 2, 3, 4, 5, 0] rfl ?_
  have e9 := Option.some.inj h
  subst e9
  exact hk
set_option maxRecDepth 100000 in
set_option maxHeartbeats 4000000 in
theorem L_X12_fact_111 {Γ : fhX} (hΓ : fhOk fhYM 12 cX12_fact 6 (some .int) Γ) (hd : 2 ≤ fhD Γ) (v1 : Int32) (v2 : Int32) (v3 : Int32) (v4 : Int32) (v5 : Int32)  (σ : fhM) (o : (Int32 × Int32) ⊕ (Int32)) (h : f_X12_fact_111 v1 v2 v3 v4 v5 σ = some o) (hk : (fhK (fun x => fhW fhYM Γ 54 [(0, .ref 0), (1, .int v1), (2, .int v2), (3, .int v3), (4, .int x.1), (5, .int x.2)] [] σ) (fun o => fhRet Γ (some (.int o)) σ)) o) : fhW fhYM Γ 111 [(0, .ref 0), (1, .int v1), (2, .int v2), (3, .int v3), (4, .int v4), (5, .int v5)] [] σ := by
  unfold f_X12_fact_111 at h
  refine fhW.blk fhPM fhLL hΓ [(.iinc 4 1, 1)] (pc' := 114) (lv' := [(4, .int (v4 + (1 : Int32))), (0, .ref 0), (1, .int v1), (2, .int v2), (3, .int v3), (5, .int v5)]) (st' := []) (σ' := σ) (by decide +kernel) rfl rfl rfl ?_
  refine fhW.sub (lv' := [(0, .ref 0), (1, .int v1), (2, .int v2), (3, .int v3), (4, .int (v4 + (1 : Int32))), (5, .int v5)]) [1, 2, 3, 4, 0, 5] rfl ?_
  exact L_X12_fact_114 hΓ hd v1 v2 v3 (v4 + (1 : Int32)) v5 σ _ h hk
set_option maxRecDepth 100000 in
set_option maxHeartbeats 4000000 in
theorem L_X12_fact_54 {Γ : fhX} (hΓ : fhOk fhYM 12 cX12_fact 6 (some .int) Γ) (hd : 2 ≤ fhD Γ) (v1 : Int32) (v2 : Int32) (v3 : Int32) (v4 : Int32) (v5 : Int32)  (σ : fhM) (o : (Int32 × Int32) ⊕ (Int32)) (h : f_X12_fact_54 v1 v2 v3 v4 v5 σ = some o) (hk : (fhK (fun x => fhW fhYM Γ 54 [(0, .ref 0), (1, .int v1), (2, .int v2), (3, .int v3), (4, .int x.1), (5, .int x.2)] [] σ) (fun o => fhRet Γ (some (.int o)) σ)) o) : fhW fhYM Γ 54 [(0, .ref 0), (1, .int v1), (2, .int v2), (3, .int v3), (4, .int v4), (5, .int v5)] [] σ := by
  unfold f_X12_fact_54 at h
  refine fhW.blk fhPM fhLL hΓ [(.iload 5, 0), (.aload_n 0, 0), (.getfield 432, 0)] (pc' := 60) (lv' := [(0, .ref 0), (1, .int v1), (2, .int v2), (3, .int v3), (4, .int v4), (5, .int v5)]) (st' := [.int (σ.1 0 52), .int v5]) (σ' := σ) (by decide +kernel) rfl rfl rfl ?_
  refine fhW.i_ge hΓ (tgt := 120) (show fhbk _ _ (.if_icmp .ge (60)) _ = true by decide +kernel) (fun hc => ?_) (fun hc => ?_)
  · rw [if_pos hc] at h
    refine fhW.blk fhPM fhLL hΓ [(.iload 4, 0)] (pc' := 122) (lv' := [(0, .ref 0), (1, .int v1), (2, .int v2), (3, .int v3), (4, .int v4), (5, .int v5)]) (st' := [.int v4]) (σ' := σ) (by decide +kernel) rfl rfl rfl ?_
    have e9 := Option.some.inj h
    subst e9
    exact fhW.iret hΓ (by decide +kernel) hk
  · rw [if_neg hc] at h
    refine fhW.blk fhPM fhLL hΓ [(.iload_n 2, 0), (.iconst 1, 1)] (pc' := 65) (lv' := [(0, .ref 0), (1, .int v1), (2, .int v2), (3, .int v3), (4, .int v4), (5, .int v5)]) (st' := [.int (1 : Int32), .int v2]) (σ' := σ) (by decide +kernel) rfl rfl rfl ?_
    refine fhW.i_ne hΓ (tgt := 91) (show fhbk _ _ (.if_icmp .ne (26)) _ = true by decide +kernel) (fun hc => ?_) (fun hc => ?_)
    · rw [if_neg hc] at h
      obtain ⟨hg1, h⟩ := fhif h
      refine fhW.blk fhPM fhLL hΓ [(.aload_n 0, 0), (.getfield 124, 0), (.iload 5, 0), (.baload, 0)] (pc' := 98) (lv' := [(0, .ref 0), (1, .int v1), (2, .int v2), (3, .int v3), (4, .int v4), (5, .int v5)]) (st' := [.int (σ.1 37 (fhix v5))]) (σ' := σ) (by decide +kernel) rfl rfl hg1 ?_
      refine fhW.z_eq hΓ (tgt := 114) (show fhbk _ _ (.ifCond .eq (16)) _ = true by decide +kernel) (fun hc => ?_) (fun hc => ?_)
      · rw [if_pos hc] at h
        refine fhW.sub (lv' := [(0, .ref 0), (1, .int v1), (2, .int v2), (3, .int v3), (4, .int v4), (5, .int v5)]) [0, 1, 2, 3, 4, 5] rfl ?_
        exact L_X12_fact_114 hΓ hd v1 v2 v3 v4 v5 σ _ h hk
      · rw [if_neg hc] at h
        refine fhW.blk fhPM fhLL hΓ [(.aload_n 0, 0), (.iload 5, 0), (.iload_n 1, 0)] (pc' := 105) (lv' := [(0, .ref 0), (1, .int v1), (2, .int v2), (3, .int v3), (4, .int v4), (5, .int v5)]) (st' := [.int v1, .int v5, .ref 0]) (σ' := σ) (by decide +kernel) rfl rfl rfl ?_
        obtain ⟨q2, hb1, h⟩ := Option.bind_eq_some_iff.mp h
        refine fhW.callv hΓ mvX12_doesHold ml_12_519 (t := 0) (ci := 12) (av := [.int v5, .int v1]) (rest := []) (r := (some (.int (fhb q2)))) (σ' := σ) (T_X12_doesHold (E := fhEn Γ) (d := fhD Γ - 1) (by omega) v5 v1 σ hb1) (by omega) (by decide +kernel) rfl rfl rfl (Nat.le_of_ble_eq_true rfl) rfl ?_
        show fhW fhYM Γ 108 [(0, .ref 0), (1, .int v1), (2, .int v2), (3, .int v3), (4, .int v4), (5, .int v5)] [.int (fhb q2)] σ
        refine fhW.b_eq hΓ (tgt := 114) (show fhbk _ _ (.ifCond .eq (6)) _ = true by decide +kernel) (fun hc => ?_) (fun hc => ?_)
        · rw [if_neg hc] at h
          refine fhW.sub (lv' := [(0, .ref 0), (1, .int v1), (2, .int v2), (3, .int v3), (4, .int v4), (5, .int v5)]) [0, 1, 2, 3, 4, 5] rfl ?_
          exact L_X12_fact_114 hΓ hd v1 v2 v3 v4 v5 σ _ h hk
        · rw [if_pos hc] at h
          refine fhW.sub (lv' := [(0, .ref 0), (1, .int v1), (2, .int v2), (3, .int v3), (4, .int v4), (5, .int v5)]) [0, 1, 2, 3, 4, 5] rfl ?_
          exact L_X12_fact_111 hΓ hd v1 v2 v3 v4 v5 σ _ h hk
    · rw [if_pos hc] at h
      refine fhW.blk fhPM fhLL hΓ [(.aload_n 0, 0), (.iload 5, 0)] (pc' := 71) (lv' := [(0, .ref 0), (1, .int v1), (2, .int v2), (3, .int v3), (4, .int v4), (5, .int v5)]) (st' := [.int v5, .ref 0]) (σ' := σ) (by decide +kernel) rfl rfl rfl ?_
      obtain ⟨q3, hb2, h⟩ := Option.bind_eq_some_iff.mp h
      refine fhW.callv hΓ mvX12_isLeft ml_12_478 (t := 0) (ci := 12) (av := [.int v5]) (rest := []) (r := (some (.int (fhb q3)))) (σ' := σ) (T_X12_isLeft (E := fhEn Γ) (d := fhD Γ - 1) (by omega) v5 σ hb2) (by omega) (by decide +kernel) rfl rfl rfl (Nat.le_of_ble_eq_true rfl) rfl ?_
      show fhW fhYM Γ 74 [(0, .ref 0), (1, .int v1), (2, .int v2), (3, .int v3), (4, .int v4), (5, .int v5)] [.int (fhb q3)] σ
      refine fhW.b_eq hΓ (tgt := 114) (show fhbk _ _ (.ifCond .eq (40)) _ = true by decide +kernel) (fun hc => ?_) (fun hc => ?_)
      · rw [if_neg hc] at h
        refine fhW.sub (lv' := [(0, .ref 0), (1, .int v1), (2, .int v2), (3, .int v3), (4, .int v4), (5, .int v5)]) [0, 1, 2, 3, 4, 5] rfl ?_
        exact L_X12_fact_114 hΓ hd v1 v2 v3 v4 v5 σ _ h hk
      · rw [if_pos hc] at h
        refine fhW.blk fhPM fhLL hΓ [(.aload_n 0, 0), (.iload 5, 0), (.iload_n 1, 0)] (pc' := 81) (lv' := [(0, .ref 0), (1, .int v1), (2, .int v2), (3, .int v3), (4, .int v4), (5, .int v5)]) (st' := [.int v1, .int v5, .ref 0]) (σ' := σ) (by decide +kernel) rfl rfl rfl ?_
        obtain ⟨q4, hb3, h⟩ := Option.bind_eq_some_iff.mp h
        refine fhW.callv hΓ mvX12_doesHold ml_12_519 (t := 0) (ci := 12) (av := [.int v5, .int v1]) (rest := []) (r := (some (.int (fhb q4)))) (σ' := σ) (T_X12_doesHold (E := fhEn Γ) (d := fhD Γ - 1) (by omega) v5 v1 σ hb3) (by omega) (by decide +kernel) rfl rfl rfl (Nat.le_of_ble_eq_true rfl) rfl ?_
        show fhW fhYM Γ 84 [(0, .ref 0), (1, .int v1), (2, .int v2), (3, .int v3), (4, .int v4), (5, .int v5)] [.int (fhb q4)] σ
        refine fhW.blk fhPM fhLL hΓ [(.iload_n 3, 0)] (pc' := 85) (lv' := [(0, .ref 0), (1, .int v1), (2, .int v2), (3, .int v3), (4, .int v4), (5, .int v5)]) (st' := [.int v3, .int (fhb q4)]) (σ' := σ) (by decide +kernel) rfl rfl rfl ?_
        refine fhW.i_ne hΓ (tgt := 114) (show fhbk _ _ (.if_icmp .ne (29)) _ = true by decide +kernel) (fun hc => ?_) (fun hc => ?_)
        · rw [if_neg hc] at h
          refine fhW.sub (lv' := [(0, .ref 0), (1, .int v1), (2, .int v2), (3, .int v3), (4, .int v4), (5, .int v5)]) [0, 1, 2, 3, 4, 5] rfl ?_
          exact L_X12_fact_114 hΓ hd v1 v2 v3 v4 v5 σ _ h hk
        · rw [if_pos hc] at h
          refine fhW.goto hΓ (off := 23) (tgt := 111) (by decide +kernel) ?_
          refine fhW.sub (lv' := [(0, .ref 0), (1, .int v1), (2, .int v2), (3, .int v3), (4, .int v4), (5, .int v5)]) [0, 1, 2, 3, 4, 5] rfl ?_
          exact L_X12_fact_111 hΓ hd v1 v2 v3 v4 v5 σ _ h hk
set_option maxRecDepth 100000 in
set_option maxHeartbeats 4000000 in
theorem L_X12_fact_E {Γ : fhX} (hΓ : fhOk fhYM 12 cX12_fact 6 (some .int) Γ) (hd : 2 ≤ fhD Γ) (v1 : Int32) (v2 : Int32)  (σ : fhM) (o : Int32) (h : f_X12_fact v1 v2 σ = some o) (hk : (fun o => fhRet Γ (some (.int o)) σ) o) : fhW fhYM Γ 0 [(0, .ref 0), (1, .int v1), (2, .int v2)] [] σ := by
  unfold f_X12_fact at h
  refine fhW.blk fhPM fhLL hΓ [(.aload_n 0, 0), (.iload_n 1, 0)] (pc' := 2) (lv' := [(0, .ref 0), (1, .int v1), (2, .int v2)]) (st' := [.int v1, .ref 0]) (σ' := σ) (by decide +kernel) rfl rfl rfl ?_
  refine fhW.callv hΓ mvX12_isFact ml_12_514 (t := 0) (ci := 12) (av := [.int v1]) (rest := []) (r := (some (.int (fhb (f_X12_isFact v1 σ))))) (σ' := σ) (T_X12_isFact (E := fhEn Γ) (d := fhD Γ - 1) (by omega) v1 σ) (by omega) (by decide +kernel) rfl rfl rfl (Nat.le_of_ble_eq_true rfl) rfl ?_
  show fhW fhYM Γ 5 [(0, .ref 0), (1, .int v1), (2, .int v2)] [.int (fhb (f_X12_isFact v1 σ))] σ
  refine fhW.b_eq hΓ (tgt := 20) (show fhbk _ _ (.ifCond .eq (15)) _ = true by decide +kernel) (fun hc => ?_) (fun hc => ?_)
  · rw [if_neg hc] at h
    refine fhW.blk fhPM fhLL hΓ [(.iconst (-1), -1)] (pc' := 21) (lv' := [(0, .ref 0), (1, .int v1), (2, .int v2)]) (st' := [.int (-1 : Int32)]) (σ' := σ) (by decide +kernel) rfl rfl rfl ?_
    have e9 := Option.some.inj h
    subst e9
    exact fhW.iret hΓ (by decide +kernel) hk
  · rw [if_pos hc] at h
    refine fhW.blk fhPM fhLL hΓ [(.iload_n 2, 0), (.i2l, 0), (.lconst 0, 0), (.ldc2_w 517, 0)] (pc' := 14) (lv' := [(0, .ref 0), (1, .int v1), (2, .int v2)]) (st' := [.long (2 : Int64), .long (0 : Int64), .long (Int32.toInt64 v2)]) (σ' := σ) (by decide +kernel) rfl rfl rfl ?_
    refine fhW.calls hΓ msX12_isIn ml_12_305 (av := [.long (Int32.toInt64 v2), .long (0 : Int64), .long (2 : Int64)]) (rest := []) (r := (some (.int (fhb (f_X12_isIn (Int32.toInt64 v2) (0 : Int64) (2 : Int64) σ))))) (σ' := σ) (T_X12_isIn (E := fhEn Γ) (d := fhD Γ - 1) (by omega) (Int32.toInt64 v2) (0 : Int64) (2 : Int64) σ) (by omega) (by decide +kernel) rfl (Nat.le_of_ble_eq_true rfl) rfl ?_
    show fhW fhYM Γ 17 [(0, .ref 0), (1, .int v1), (2, .int v2)] [.int (fhb (f_X12_isIn (Int32.toInt64 v2) (0 : Int64) (2 : Int64) σ))] σ
    refine fhW.b_ne hΓ (tgt := 22) (show fhbk _ _ (.ifCond .ne (5)) _ = true by decide +kernel) (fun hc => ?_) (fun hc => ?_)
    · rw [if_pos hc] at h
      refine fhW.blk fhPM fhLL hΓ [(.aload_n 0, 0), (.aload_n 0, 0), (.getfield 147, 0), (.iconst 1, 1), (.iaload, 0), (.iload_n 1, 0)] (pc' := 30) (lv' := [(0, .ref 0), (1, .int v1), (2, .int v2)]) (st' := [.int v1, .int (σ.1 44 1), .ref 0]) (σ' := σ) (by decide +kernel) rfl rfl rfl ?_
      obtain ⟨q1, hb4, h⟩ := Option.bind_eq_some_iff.mp h
      refine fhW.callv hΓ mvX12_doesHold ml_12_519 (t := 0) (ci := 12) (av := [.int (σ.1 44 1), .int v1]) (rest := []) (r := (some (.int (fhb q1)))) (σ' := σ) (T_X12_doesHold (E := fhEn Γ) (d := fhD Γ - 1) (by omega) (σ.1 44 1) v1 σ hb4) (by omega) (by decide +kernel) rfl rfl rfl (Nat.le_of_ble_eq_true rfl) rfl ?_
      show fhW fhYM Γ 33 [(0, .ref 0), (1, .int v1), (2, .int v2)] [.int (fhb q1)] σ
      refine fhW.blk fhPM fhLL hΓ [(.istore_n 3, 0), (.iload_n 2, 0)] (pc' := 35) (lv' := [(3, .int (fhb q1)), (0, .ref 0), (1, .int v1), (2, .int v2)]) (st' := [.int v2]) (σ' := σ) (by decide +kernel) rfl rfl rfl ?_
      refine fhW.z_ne hΓ (tgt := 48) (show fhbk _ _ (.ifCond .ne (13)) _ = true by decide +kernel) (fun hc => ?_) (fun hc => ?_)
      · rw [if_neg hc] at h
        refine fhW.blk fhPM fhLL hΓ [(.iconst 0, 0), (.istore 4, 0), (.iconst 0, 0), (.istore 5, 0)] (pc' := 54) (lv' := [(5, .int (0 : Int32)), (4, .int (0 : Int32)), (3, .int (fhb q1)), (0, .ref 0), (1, .int v1), (2, .int v2)]) (st' := []) (σ' := σ) (by decide +kernel) rfl rfl rfl ?_
        refine fhW.sub (lv' := [(0, .ref 0), (1, .int v1), (2, .int v2), (3, .int (fhb q1)), (4, .int (0 : Int32)), (5, .int (0 : Int32))]) [3, 4, 5, 2, 1, 0] rfl ?_
        exact fhlp_ok (W := (fun x => fhW fhYM Γ 54 [(0, .ref 0), (1, .int v1), (2, .int v2), (3, .int (fhb q1)), (4, .int x.1), (5, .int x.2)] [] σ)) (B := (fun o => fhRet Γ (some (.int o)) σ)) (fun x o h hk => L_X12_fact_54 hΓ hd v1 v2 (fhb q1) x.1 x.2 σ o h hk) ((0 : Int32), (0 : Int32)) _ h hk
      · rw [if_pos hc] at h
        refine fhW.blk fhPM fhLL hΓ [(.iload_n 3, 0)] (pc' := 39) (lv' := [(3, .int (fhb q1)), (0, .ref 0), (1, .int v1), (2, .int v2)]) (st' := [.int (fhb q1)]) (σ' := σ) (by decide +kernel) rfl rfl rfl ?_
        refine fhW.b_eq hΓ (tgt := 46) (show fhbk _ _ (.ifCond .eq (7)) _ = true by decide +kernel) (fun hc => ?_) (fun hc => ?_)
        · rw [if_neg hc] at h
          refine fhW.blk fhPM fhLL hΓ [(.iconst 0, 0)] (pc' := 47) (lv' := [(3, .int (fhb q1)), (0, .ref 0), (1, .int v1), (2, .int v2)]) (st' := [.int (0 : Int32)]) (σ' := σ) (by decide +kernel) rfl rfl rfl ?_
          have e9 := Option.some.inj h
          subst e9
          exact fhW.iret hΓ (by decide +kernel) hk
        · rw [if_pos hc] at h
          refine fhW.blk fhPM fhLL hΓ [(.iconst 1, 1)] (pc' := 43) (lv' := [(3, .int (fhb q1)), (0, .ref 0), (1, .int v1), (2, .int v2)]) (st' := [.int (1 : Int32)]) (σ' := σ) (by decide +kernel) rfl rfl rfl ?_
          refine fhW.goto hΓ (off := 4) (tgt := 47) (by decide +kernel) ?_
          have e9 := Option.some.inj h
          subst e9
          exact fhW.iret hΓ (by decide +kernel) hk
    · rw [if_neg hc] at h
      refine fhW.blk fhPM fhLL hΓ [(.iconst (-1), -1)] (pc' := 21) (lv' := [(0, .ref 0), (1, .int v1), (2, .int v2)]) (st' := [.int (-1 : Int32)]) (σ' := σ) (by decide +kernel) rfl rfl rfl ?_
      have e9 := Option.some.inj h
      subst e9
      exact fhW.iret hΓ (by decide +kernel) hk
set_option maxRecDepth 100000 in
theorem T_X12_fact {E : fhE} {d : Nat} (hd : 2 ≤ d) (v1 : Int32) (v2 : Int32)  (σ : fhM) {o : Int32} (h : f_X12_fact v1 v2 σ = some o) : fhC fhYM E d miX12_fact [.ref 0, .int v1, .int v2] σ (some (.int o)) σ := by
  refine fhC.of (y := yX12_fact) (cc := cX12_fact) (nL := 6) (ret := (some .int)) 12 rfl (by decide +kernel) (Nat.le_of_ble_eq_true rfl) ?_
  intro Γ hΓ hR hD hEn
  subst hD; subst hEn
  exact L_X12_fact_E hΓ hd v1 v2  σ _ h hR
set_option maxRecDepth 100000 in
set_option maxHeartbeats 4000000 in
theorem L_X12_left_37 {Γ : fhX} (hΓ : fhOk fhYM 12 cX12_left 4 (some .int) Γ) (hd : 1 ≤ fhD Γ) (v1 : Int32) (v2 : Int32) (v3 : Int32)  (σ : fhM) (o : (Int32 × Int32) ⊕ (Int32)) (h : f_X12_left_37 v1 v2 v3 σ = some o) (hk : (fhK (fun x => fhW fhYM Γ 4 [(0, .ref 0), (1, .int v1), (2, .int x.1), (3, .int x.2)] [] σ) (fun o => fhRet Γ (some (.int o)) σ)) o) : fhW fhYM Γ 37 [(0, .ref 0), (1, .int v1), (2, .int v2), (3, .int v3)] [] σ := by
  unfold f_X12_left_37 at h
  refine fhW.blk fhPM fhLL hΓ [(.iinc 3 1, 1)] (pc' := 40) (lv' := [(3, .int (v3 + (1 : Int32))), (0, .ref 0), (1, .int v1), (2, .int v2)]) (st' := []) (σ' := σ) (by decide +kernel) rfl rfl rfl ?_
  refine fhW.goto hΓ (off := (-36)) (tgt := 4) (by decide +kernel) ?_
  refine fhW.sub (lv' := [(0, .ref 0), (1, .int v1), (2, .int v2), (3, .int (v3 + (1 : Int32)))]) [1, 2, 3, 0] rfl ?_
  have e9 := Option.some.inj h
  subst e9
  exact hk
set_option maxRecDepth 100000 in
set_option maxHeartbeats 4000000 in
theorem L_X12_left_4 {Γ : fhX} (hΓ : fhOk fhYM 12 cX12_left 4 (some .int) Γ) (hd : 1 ≤ fhD Γ) (v1 : Int32) (v2 : Int32) (v3 : Int32)  (σ : fhM) (o : (Int32 × Int32) ⊕ (Int32)) (h : f_X12_left_4 v1 v2 v3 σ = some o) (hk : (fhK (fun x => fhW fhYM Γ 4 [(0, .ref 0), (1, .int v1), (2, .int x.1), (3, .int x.2)] [] σ) (fun o => fhRet Γ (some (.int o)) σ)) o) : fhW fhYM Γ 4 [(0, .ref 0), (1, .int v1), (2, .int v2), (3, .int v3)] [] σ := by
  unfold f_X12_left_4 at h
  refine fhW.blk fhPM fhLL hΓ [(.iload_n 3, 0), (.aload_n 0, 0), (.getfield 432, 0)] (pc' := 9) (lv' := [(0, .ref 0), (1, .int v1), (2, .int v2), (3, .int v3)]) (st' := [.int (σ.1 0 52), .int v3]) (σ' := σ) (by decide +kernel) rfl rfl rfl ?_
  refine fhW.i_ge hΓ (tgt := 43) (show fhbk _ _ (.if_icmp .ge (34)) _ = true by decide +kernel) (fun hc => ?_) (fun hc => ?_)
  · rw [if_pos hc] at h
    refine fhW.blk fhPM fhLL hΓ [(.iconst (-1), -1)] (pc' := 44) (lv' := [(0, .ref 0), (1, .int v1), (2, .int v2), (3, .int v3)]) (st' := [.int (-1 : Int32)]) (σ' := σ) (by decide +kernel) rfl rfl rfl ?_
    have e9 := Option.some.inj h
    subst e9
    exact fhW.iret hΓ (by decide +kernel) hk
  · rw [if_neg hc] at h
    refine fhW.blk fhPM fhLL hΓ [(.iload_n 1, 0)] (pc' := 13) (lv' := [(0, .ref 0), (1, .int v1), (2, .int v2), (3, .int v3)]) (st' := [.int v1]) (σ' := σ) (by decide +kernel) rfl rfl rfl ?_
    refine fhW.z_lt hΓ (tgt := 43) (show fhbk _ _ (.ifCond .lt (30)) _ = true by decide +kernel) (fun hc => ?_) (fun hc => ?_)
    · rw [if_pos hc] at h
      refine fhW.blk fhPM fhLL hΓ [(.iconst (-1), -1)] (pc' := 44) (lv' := [(0, .ref 0), (1, .int v1), (2, .int v2), (3, .int v3)]) (st' := [.int (-1 : Int32)]) (σ' := σ) (by decide +kernel) rfl rfl rfl ?_
      have e9 := Option.some.inj h
      subst e9
      exact fhW.iret hΓ (by decide +kernel) hk
    · rw [if_neg hc] at h
      refine fhW.blk fhPM fhLL hΓ [(.aload_n 0, 0), (.iload_n 3, 0)] (pc' := 18) (lv' := [(0, .ref 0), (1, .int v1), (2, .int v2), (3, .int v3)]) (st' := [.int v3, .ref 0]) (σ' := σ) (by decide +kernel) rfl rfl rfl ?_
      obtain ⟨q1, hb1, h⟩ := Option.bind_eq_some_iff.mp h
      refine fhW.callv hΓ mvX12_isLeft ml_12_478 (t := 0) (ci := 12) (av := [.int v3]) (rest := []) (r := (some (.int (fhb q1)))) (σ' := σ) (T_X12_isLeft (E := fhEn Γ) (d := fhD Γ - 1) (by omega) v3 σ hb1) (by omega) (by decide +kernel) rfl rfl rfl (Nat.le_of_ble_eq_true rfl) rfl ?_
      show fhW fhYM Γ 21 [(0, .ref 0), (1, .int v1), (2, .int v2), (3, .int v3)] [.int (fhb q1)] σ
      refine fhW.b_ne hΓ (tgt := 27) (show fhbk _ _ (.ifCond .ne (6)) _ = true by decide +kernel) (fun hc => ?_) (fun hc => ?_)
      · rw [if_pos hc] at h
        refine fhW.blk fhPM fhLL hΓ [(.iload_n 2, 0), (.iload_n 1, 0)] (pc' := 29) (lv' := [(0, .ref 0), (1, .int v1), (2, .int v2), (3, .int v3)]) (st' := [.int v1, .int v2]) (σ' := σ) (by decide +kernel) rfl rfl rfl ?_
        refine fhW.i_ne hΓ (tgt := 34) (show fhbk _ _ (.if_icmp .ne (5)) _ = true by decide +kernel) (fun hc => ?_) (fun hc => ?_)
        · rw [if_neg hc] at h
          refine fhW.blk fhPM fhLL hΓ [(.iinc 2 1, 1)] (pc' := 37) (lv' := [(2, .int (v2 + (1 : Int32))), (0, .ref 0), (1, .int v1), (3, .int v3)]) (st' := []) (σ' := σ) (by decide +kernel) rfl rfl rfl ?_
          refine fhW.sub (lv' := [(0, .ref 0), (1, .int v1), (2, .int (v2 + (1 : Int32))), (3, .int v3)]) [1, 2, 0, 3] rfl ?_
          exact L_X12_left_37 hΓ hd v1 (v2 + (1 : Int32)) v3 σ _ h hk
        · rw [if_pos hc] at h
          refine fhW.blk fhPM fhLL hΓ [(.iload_n 3, 0)] (pc' := 33) (lv' := [(0, .ref 0), (1, .int v1), (2, .int v2), (3, .int v3)]) (st' := [.int v3]) (σ' := σ) (by decide +kernel) rfl rfl rfl ?_
          have e9 := Option.some.inj h
          subst e9
          exact fhW.iret hΓ (by decide +kernel) hk
      · rw [if_neg hc] at h
        refine fhW.goto hΓ (off := 13) (tgt := 37) (by decide +kernel) ?_
        refine fhW.sub (lv' := [(0, .ref 0), (1, .int v1), (2, .int v2), (3, .int v3)]) [0, 1, 2, 3] rfl ?_
        exact L_X12_left_37 hΓ hd v1 v2 v3 σ _ h hk
set_option maxRecDepth 100000 in
set_option maxHeartbeats 4000000 in
theorem L_X12_left_E {Γ : fhX} (hΓ : fhOk fhYM 12 cX12_left 4 (some .int) Γ) (hd : 1 ≤ fhD Γ) (v1 : Int32)  (σ : fhM) (o : Int32) (h : f_X12_left v1 σ = some o) (hk : (fun o => fhRet Γ (some (.int o)) σ) o) : fhW fhYM Γ 0 [(0, .ref 0), (1, .int v1)] [] σ := by
  unfold f_X12_left at h
  refine fhW.blk fhPM fhLL hΓ [(.iconst 0, 0), (.istore_n 2, 0), (.iconst 0, 0), (.istore_n 3, 0)] (pc' := 4) (lv' := [(3, .int (0 : Int32)), (2, .int (0 : Int32)), (0, .ref 0), (1, .int v1)]) (st' := []) (σ' := σ) (by decide +kernel) rfl rfl rfl ?_
  refine fhW.sub (lv' := [(0, .ref 0), (1, .int v1), (2, .int (0 : Int32)), (3, .int (0 : Int32))]) [2, 3, 1, 0] rfl ?_
  exact fhlp_ok (W := (fun x => fhW fhYM Γ 4 [(0, .ref 0), (1, .int v1), (2, .int x.1), (3, .int x.2)] [] σ)) (B := (fun o => fhRet Γ (some (.int o)) σ)) (fun x o h hk => L_X12_left_4 hΓ hd v1 x.1 x.2 σ o h hk) ((0 : Int32), (0 : Int32)) _ h hk
set_option maxRecDepth 100000 in
theorem T_X12_left {E : fhE} {d : Nat} (hd : 1 ≤ d) (v1 : Int32)  (σ : fhM) {o : Int32} (h : f_X12_left v1 σ = some o) : fhC fhYM E d miX12_left [.ref 0, .int v1] σ (some (.int o)) σ := by
  refine fhC.of (y := yX12_left) (cc := cX12_left) (nL := 4) (ret := (some .int)) 12 rfl (by decide +kernel) (Nat.le_of_ble_eq_true rfl) ?_
  intro Γ hΓ hR hD hEn
  subst hD; subst hEn
  exact L_X12_left_E hΓ hd v1  σ _ h hR
set_option maxRecDepth 100000 in
set_option maxHeartbeats 4000000 in
theorem L_X12_wears_E {Γ : fhX} (hΓ : fhOk fhYM 12 cX12_wears 3 (some .int) Γ) (hd : 2 ≤ fhD Γ) (v1 : Int32) (v2 : Int32)  (σ : fhM) (o : Int32) (h : f_X12_wears v1 v2 σ = some o) (hk : (fun o => fhRet Γ (some (.int o)) σ) o) : fhW fhYM Γ 0 [(0, .ref 0), (1, .int v1), (2, .int v2)] [] σ := by
  unfold f_X12_wears at h
  refine fhW.blk fhPM fhLL hΓ [(.aload_n 0, 0), (.getfield 441, 0)] (pc' := 4) (lv' := [(0, .ref 0), (1, .int v1), (2, .int v2)]) (st' := [.int (σ.1 0 47)]) (σ' := σ) (by decide +kernel) rfl rfl rfl ?_
  refine fhW.z_eq hΓ (tgt := 41) (show fhbk _ _ (.ifCond .eq (37)) _ = true by decide +kernel) (fun hc => ?_) (fun hc => ?_)
  · rw [if_pos hc] at h
    refine fhW.blk fhPM fhLL hΓ [(.iconst (-1), -1)] (pc' := 42) (lv' := [(0, .ref 0), (1, .int v1), (2, .int v2)]) (st' := [.int (-1 : Int32)]) (σ' := σ) (by decide +kernel) rfl rfl rfl ?_
    have e9 := Option.some.inj h
    subst e9
    exact fhW.iret hΓ (by decide +kernel) hk
  · rw [if_neg hc] at h
    refine fhW.blk fhPM fhLL hΓ [(.iload_n 1, 0), (.i2l, 0), (.lconst 0, 0), (.aload_n 0, 0), (.getfield 432, 0), (.iconst 1, 1), (.isub, 0), (.i2l, 0)] (pc' := 17) (lv' := [(0, .ref 0), (1, .int v1), (2, .int v2)]) (st' := [.long (Int32.toInt64 ((σ.1 0 52) - (1 : Int32))), .long (0 : Int64), .long (Int32.toInt64 v1)]) (σ' := σ) (by decide +kernel) rfl rfl rfl ?_
    refine fhW.calls hΓ msX12_isIn ml_12_305 (av := [.long (Int32.toInt64 v1), .long (0 : Int64), .long (Int32.toInt64 ((σ.1 0 52) - (1 : Int32)))]) (rest := []) (r := (some (.int (fhb (f_X12_isIn (Int32.toInt64 v1) (0 : Int64) (Int32.toInt64 ((σ.1 0 52) - (1 : Int32))) σ))))) (σ' := σ) (T_X12_isIn (E := fhEn Γ) (d := fhD Γ - 1) (by omega) (Int32.toInt64 v1) (0 : Int64) (Int32.toInt64 ((σ.1 0 52) - (1 : Int32))) σ) (by omega) (by decide +kernel) rfl (Nat.le_of_ble_eq_true rfl) rfl ?_
    show fhW fhYM Γ 20 [(0, .ref 0), (1, .int v1), (2, .int v2)] [.int (fhb (f_X12_isIn (Int32.toInt64 v1) (0 : Int64) (Int32.toInt64 ((σ.1 0 52) - (1 : Int32))) σ))] σ
    refine fhW.b_eq hΓ (tgt := 41) (show fhbk _ _ (.ifCond .eq (21)) _ = true by decide +kernel) (fun hc => ?_) (fun hc => ?_)
    · rw [if_neg hc] at h
      refine fhW.blk fhPM fhLL hΓ [(.iconst (-1), -1)] (pc' := 42) (lv' := [(0, .ref 0), (1, .int v1), (2, .int v2)]) (st' := [.int (-1 : Int32)]) (σ' := σ) (by decide +kernel) rfl rfl rfl ?_
      have e9 := Option.some.inj h
      subst e9
      exact fhW.iret hΓ (by decide +kernel) hk
    · rw [if_pos hc] at h
      refine fhW.blk fhPM fhLL hΓ [(.aload_n 0, 0), (.iload_n 2, 0), (.i2l, 0)] (pc' := 26) (lv' := [(0, .ref 0), (1, .int v1), (2, .int v2)]) (st' := [.long (Int32.toInt64 v2), .ref 0]) (σ' := σ) (by decide +kernel) rfl rfl rfl ?_
      refine fhW.callv hΓ mvX12_isGuest ml_12_505 (t := 0) (ci := 12) (av := [.long (Int32.toInt64 v2)]) (rest := []) (r := (some (.int (fhb (f_X12_isGuest (Int32.toInt64 v2) σ))))) (σ' := σ) (T_X12_isGuest (E := fhEn Γ) (d := fhD Γ - 1) (by omega) (Int32.toInt64 v2) σ) (by omega) (by decide +kernel) rfl rfl rfl (Nat.le_of_ble_eq_true rfl) rfl ?_
      show fhW fhYM Γ 29 [(0, .ref 0), (1, .int v1), (2, .int v2)] [.int (fhb (f_X12_isGuest (Int32.toInt64 v2) σ))] σ
      refine fhW.b_eq hΓ (tgt := 41) (show fhbk _ _ (.ifCond .eq (12)) _ = true by decide +kernel) (fun hc => ?_) (fun hc => ?_)
      · rw [if_neg hc] at h
        refine fhW.blk fhPM fhLL hΓ [(.iconst (-1), -1)] (pc' := 42) (lv' := [(0, .ref 0), (1, .int v1), (2, .int v2)]) (st' := [.int (-1 : Int32)]) (σ' := σ) (by decide +kernel) rfl rfl rfl ?_
        have e9 := Option.some.inj h
        subst e9
        exact fhW.iret hΓ (by decide +kernel) hk
      · rw [if_pos hc] at h
        refine fhW.blk fhPM fhLL hΓ [(.aload_n 0, 0), (.iload_n 1, 0), (.iload_n 2, 0)] (pc' := 35) (lv' := [(0, .ref 0), (1, .int v1), (2, .int v2)]) (st' := [.int v2, .int v1, .ref 0]) (σ' := σ) (by decide +kernel) rfl rfl rfl ?_
        obtain ⟨q1, hb1, h⟩ := Option.bind_eq_some_iff.mp h
        refine fhW.callv hΓ mvX12_markOf ml_12_429 (t := 0) (ci := 12) (av := [.int v1, .int v2]) (rest := []) (r := (some (.int q1))) (σ' := σ) (T_X12_markOf (E := fhEn Γ) (d := fhD Γ - 1) (by omega) v1 v2 σ hb1) (by omega) (by decide +kernel) rfl rfl rfl (Nat.le_of_ble_eq_true rfl) rfl ?_
        show fhW fhYM Γ 38 [(0, .ref 0), (1, .int v1), (2, .int v2)] [.int q1] σ
        refine fhW.goto hΓ (off := 4) (tgt := 42) (by decide +kernel) ?_
        have e9 := Option.some.inj h
        subst e9
        exact fhW.iret hΓ (by decide +kernel) hk
set_option maxRecDepth 100000 in
theorem T_X12_wears {E : fhE} {d : Nat} (hd : 2 ≤ d) (v1 : Int32) (v2 : Int32)  (σ : fhM) {o : Int32} (h : f_X12_wears v1 v2 σ = some o) : fhC fhYM E d miX12_wears [.ref 0, .int v1, .int v2] σ (some (.int o)) σ := by
  refine fhC.of (y := yX12_wears) (cc := cX12_wears) (nL := 3) (ret := (some .int)) 12 rfl (by decide +kernel) (Nat.le_of_ble_eq_true rfl) ?_
  intro Γ hΓ hR hD hEn
  subst hD; subst hEn
  exact L_X12_wears_E hΓ hd v1 v2  σ _ h hR
set_option maxRecDepth 100000 in
set_option maxHeartbeats 4000000 in
theorem L_X12_kept_E {Γ : fhX} (hΓ : fhOk fhYM 12 cX12_kept 3 (some .int) Γ) (hd : 1 ≤ fhD Γ) (v1 : Int32) (v2 : Int32)  (σ : fhM) (o : Int32) (h : f_X12_kept v1 v2 σ = some o) (hk : (fun o => fhRet Γ (some (.int o)) σ) o) : fhW fhYM Γ 0 [(0, .ref 0), (1, .int v1), (2, .int v2)] [] σ := by
  unfold f_X12_kept at h
  refine fhW.blk fhPM fhLL hΓ [(.iload_n 1, 0), (.i2l, 0), (.lconst 0, 0), (.aload_n 0, 0), (.getfield 147, 0), (.sipush 1026, 1026), (.iaload, 0), (.iconst 1, 1), (.isub, 0), (.i2l, 0)] (pc' := 14) (lv' := [(0, .ref 0), (1, .int v1), (2, .int v2)]) (st' := [.long (Int32.toInt64 ((σ.1 44 1026) - (1 : Int32))), .long (0 : Int64), .long (Int32.toInt64 v1)]) (σ' := σ) (by decide +kernel) rfl rfl rfl ?_
  refine fhW.calls hΓ msX12_isIn ml_12_305 (av := [.long (Int32.toInt64 v1), .long (0 : Int64), .long (Int32.toInt64 ((σ.1 44 1026) - (1 : Int32)))]) (rest := []) (r := (some (.int (fhb (f_X12_isIn (Int32.toInt64 v1) (0 : Int64) (Int32.toInt64 ((σ.1 44 1026) - (1 : Int32))) σ))))) (σ' := σ) (T_X12_isIn (E := fhEn Γ) (d := fhD Γ - 1) (by omega) (Int32.toInt64 v1) (0 : Int64) (Int32.toInt64 ((σ.1 44 1026) - (1 : Int32))) σ) (by omega) (by decide +kernel) rfl (Nat.le_of_ble_eq_true rfl) rfl ?_
  show fhW fhYM Γ 17 [(0, .ref 0), (1, .int v1), (2, .int v2)] [.int (fhb (f_X12_isIn (Int32.toInt64 v1) (0 : Int64) (Int32.toInt64 ((σ.1 44 1026) - (1 : Int32))) σ))] σ
  refine fhW.b_eq hΓ (tgt := 49) (show fhbk _ _ (.ifCond .eq (32)) _ = true by decide +kernel) (fun hc => ?_) (fun hc => ?_)
  · rw [if_neg hc] at h
    refine fhW.blk fhPM fhLL hΓ [(.iconst (-1), -1)] (pc' := 50) (lv' := [(0, .ref 0), (1, .int v1), (2, .int v2)]) (st' := [.int (-1 : Int32)]) (σ' := σ) (by decide +kernel) rfl rfl rfl ?_
    have e9 := Option.some.inj h
    subst e9
    exact fhW.iret hΓ (by decide +kernel) hk
  · rw [if_pos hc] at h
    refine fhW.blk fhPM fhLL hΓ [(.iload_n 2, 0), (.i2l, 0), (.lconst 0, 0), (.ldc2_w 523, 0)] (pc' := 26) (lv' := [(0, .ref 0), (1, .int v1), (2, .int v2)]) (st' := [.long (3 : Int64), .long (0 : Int64), .long (Int32.toInt64 v2)]) (σ' := σ) (by decide +kernel) rfl rfl rfl ?_
    refine fhW.calls hΓ msX12_isIn ml_12_305 (av := [.long (Int32.toInt64 v2), .long (0 : Int64), .long (3 : Int64)]) (rest := []) (r := (some (.int (fhb (f_X12_isIn (Int32.toInt64 v2) (0 : Int64) (3 : Int64) σ))))) (σ' := σ) (T_X12_isIn (E := fhEn Γ) (d := fhD Γ - 1) (by omega) (Int32.toInt64 v2) (0 : Int64) (3 : Int64) σ) (by omega) (by decide +kernel) rfl (Nat.le_of_ble_eq_true rfl) rfl ?_
    show fhW fhYM Γ 29 [(0, .ref 0), (1, .int v1), (2, .int v2)] [.int (fhb (f_X12_isIn (Int32.toInt64 v2) (0 : Int64) (3 : Int64) σ))] σ
    refine fhW.b_eq hΓ (tgt := 49) (show fhbk _ _ (.ifCond .eq (20)) _ = true by decide +kernel) (fun hc => ?_) (fun hc => ?_)
    · rw [if_neg hc] at h
      refine fhW.blk fhPM fhLL hΓ [(.iconst (-1), -1)] (pc' := 50) (lv' := [(0, .ref 0), (1, .int v1), (2, .int v2)]) (st' := [.int (-1 : Int32)]) (σ' := σ) (by decide +kernel) rfl rfl rfl ?_
      have e9 := Option.some.inj h
      subst e9
      exact fhW.iret hΓ (by decide +kernel) hk
    · rw [if_pos hc] at h
      obtain ⟨hg1, h⟩ := fhif h
      refine fhW.blk fhPM fhLL hΓ [(.aload_n 0, 0), (.getfield 147, 0), (.sipush 1027, 1027), (.iconst 4, 4), (.iload_n 1, 0), (.imul, 0), (.iadd, 0), (.iload_n 2, 0), (.iadd, 0), (.iaload, 0)] (pc' := 46) (lv' := [(0, .ref 0), (1, .int v1), (2, .int v2)]) (st' := [.int (σ.1 44 (fhix (((1027 : Int32) + ((4 : Int32) * v1)) + v2)))]) (σ' := σ) (by decide +kernel) rfl rfl hg1 ?_
      refine fhW.goto hΓ (off := 4) (tgt := 50) (by decide +kernel) ?_
      have e9 := Option.some.inj h
      subst e9
      exact fhW.iret hΓ (by decide +kernel) hk
set_option maxRecDepth 100000 in
theorem T_X12_kept {E : fhE} {d : Nat} (hd : 1 ≤ d) (v1 : Int32) (v2 : Int32)  (σ : fhM) {o : Int32} (h : f_X12_kept v1 v2 σ = some o) : fhC fhYM E d miX12_kept [.ref 0, .int v1, .int v2] σ (some (.int o)) σ := by
  refine fhC.of (y := yX12_kept) (cc := cX12_kept) (nL := 3) (ret := (some .int)) 12 rfl (by decide +kernel) (Nat.le_of_ble_eq_true rfl) ?_
  intro Γ hΓ hR hD hEn
  subst hD; subst hEn
  exact L_X12_kept_E hΓ hd v1 v2  σ _ h hR
set_option maxRecDepth 100000 in
set_option maxHeartbeats 4000000 in
theorem L_X12_knows_145 {Γ : fhX} (hΓ : fhOk fhYM 12 cX12_knows 7 (some .int) Γ) (hd : 3 ≤ fhD Γ) (v1 : Int32) (v2 : Int32) (v3 : Int32) (v4 : Int32) (v5 : Int32)  (σ : fhM) (o : (Int32 × Int32 × Int32) ⊕ (Int32 × fhM)) (h : f_X12_knows_145 v1 v2 v3 v4 v5 σ = some o) (hk : (fhK (fun x => fhW fhYM Γ 37 [(0, .ref 0), (1, .int v1), (2, .int v2), (3, .int x.1), (4, .int x.2.1), (5, .int x.2.2)] [] σ) (fun o => fhRet Γ (some (.int o.1)) o.2)) o) : fhW fhYM Γ 145 [(0, .ref 0), (1, .int v1), (2, .int v2), (3, .int v3), (4, .int v4), (5, .int v5)] [] σ := by
  unfold f_X12_knows_145 at h
  refine fhW.blk fhPM fhLL hΓ [(.iinc 5 1, 1)] (pc' := 148) (lv' := [(5, .int (v5 + (1 : Int32))), (0, .ref 0), (1, .int v1), (2, .int v2), (3, .int v3), (4, .int v4)]) (st' := []) (σ' := σ) (by decide +kernel) rfl rfl rfl ?_
  refine fhW.goto hΓ (off := (-111)) (tgt := 37) (by decide +kernel) ?_
  refine fhW.sub (lv' := [(0, .ref 0), (1, .int v1), (2, .int v2), (3, .int v3), (4, .int v4), (5, .int (v5 + (1 : Int32)))]) [1, 2, 3, 4, 5, 0] rfl ?_
  have e9 := Option.some.inj h
  subst e9
  exact hk
set_option maxRecDepth 100000 in
set_option maxHeartbeats 4000000 in
theorem L_X12_knows_143 {Γ : fhX} (hΓ : fhOk fhYM 12 cX12_knows 7 (some .int) Γ) (hd : 3 ≤ fhD Γ) (v1 : Int32) (v2 : Int32) (v3 : Int32) (v5 : Int32) (s0 : Int32)  (σ : fhM) (o : (Int32 × Int32 × Int32) ⊕ (Int32 × fhM)) (h : f_X12_knows_143 v1 v2 v3 v5 s0 σ = some o) (hk : (fhK (fun x => fhW fhYM Γ 37 [(0, .ref 0), (1, .int v1), (2, .int v2), (3, .int x.1), (4, .int x.2.1), (5, .int x.2.2)] [] σ) (fun o => fhRet Γ (some (.int o.1)) o.2)) o) : fhW fhYM Γ 143 [(0, .ref 0), (1, .int v1), (2, .int v2), (3, .int v3), (5, .int v5)] [.int s0] σ := by
  unfold f_X12_knows_143 at h
  refine fhW.blk fhPM fhLL hΓ [(.istore 4, 0)] (pc' := 145) (lv' := [(4, .int s0), (0, .ref 0), (1, .int v1), (2, .int v2), (3, .int v3), (5, .int v5)]) (st' := []) (σ' := σ) (by decide +kernel) rfl rfl rfl ?_
  refine fhW.sub (lv' := [(0, .ref 0), (1, .int v1), (2, .int v2), (3, .int v3), (4, .int s0), (5, .int v5)]) [1, 2, 3, 4, 0, 5] rfl ?_
  exact L_X12_knows_145 hΓ hd v1 v2 v3 s0 v5 σ _ h hk
set_option maxRecDepth 100000 in
set_option maxHeartbeats 4000000 in
theorem L_X12_knows_142 {Γ : fhX} (hΓ : fhOk fhYM 12 cX12_knows 7 (some .int) Γ) (hd : 3 ≤ fhD Γ) (v1 : Int32) (v2 : Int32) (v3 : Int32) (v5 : Int32)  (σ : fhM) (o : (Int32 × Int32 × Int32) ⊕ (Int32 × fhM)) (h : f_X12_knows_142 v1 v2 v3 v5 σ = some o) (hk : (fhK (fun x => fhW fhYM Γ 37 [(0, .ref 0), (1, .int v1), (2, .int v2), (3, .int x.1), (4, .int x.2.1), (5, .int x.2.2)] [] σ) (fun o => fhRet Γ (some (.int o.1)) o.2)) o) : fhW fhYM Γ 142 [(0, .ref 0), (1, .int v1), (2, .int v2), (3, .int v3), (5, .int v5)] [] σ := by
  unfold f_X12_knows_142 at h
  refine fhW.blk fhPM fhLL hΓ [(.iconst 0, 0)] (pc' := 143) (lv' := [(0, .ref 0), (1, .int v1), (2, .int v2), (3, .int v3), (5, .int v5)]) (st' := [.int (0 : Int32)]) (σ' := σ) (by decide +kernel) rfl rfl rfl ?_
  refine fhW.sub (lv' := [(0, .ref 0), (1, .int v1), (2, .int v2), (3, .int v3), (5, .int v5)]) [0, 1, 2, 3, 4] rfl ?_
  exact L_X12_knows_143 hΓ hd v1 v2 v3 v5 (0 : Int32) σ _ h hk
set_option maxRecDepth 100000 in
set_option maxHeartbeats 4000000 in
theorem L_X12_knows_127 {Γ : fhX} (hΓ : fhOk fhYM 12 cX12_knows 7 (some .int) Γ) (hd : 3 ≤ fhD Γ) (v1 : Int32) (v2 : Int32) (v4 : Int32) (v5 : Int32) (v6 : Int32) (s0 : Int32)  (σ : fhM) (o : (Int32 × Int32 × Int32) ⊕ (Int32 × fhM)) (h : f_X12_knows_127 v1 v2 v4 v5 v6 s0 σ = some o) (hk : (fhK (fun x => fhW fhYM Γ 37 [(0, .ref 0), (1, .int v1), (2, .int v2), (3, .int x.1), (4, .int x.2.1), (5, .int x.2.2)] [] σ) (fun o => fhRet Γ (some (.int o.1)) o.2)) o) : fhW fhYM Γ 127 [(0, .ref 0), (1, .int v1), (2, .int v2), (4, .int v4), (5, .int v5), (6, .int v6)] [.int s0] σ := by
  unfold f_X12_knows_127 at h
  refine fhW.blk fhPM fhLL hΓ [(.istore_n 3, 0), (.iload 4, 0)] (pc' := 130) (lv' := [(3, .int s0), (0, .ref 0), (1, .int v1), (2, .int v2), (4, .int v4), (5, .int v5), (6, .int v6)]) (st' := [.int v4]) (σ' := σ) (by decide +kernel) rfl rfl rfl ?_
  refine fhW.z_eq hΓ (tgt := 142) (show fhbk _ _ (.ifCond .eq (12)) _ = true by decide +kernel) (fun hc => ?_) (fun hc => ?_)
  · rw [if_pos hc] at h
    refine fhW.sub (lv' := [(0, .ref 0), (1, .int v1), (2, .int v2), (3, .int s0), (5, .int v5)]) [1, 2, 3, 0, 5] rfl ?_
    exact L_X12_knows_142 hΓ hd v1 v2 s0 v5 σ _ h hk
  · rw [if_neg hc] at h
    refine fhW.blk fhPM fhLL hΓ [(.iload 6, 0)] (pc' := 135) (lv' := [(3, .int s0), (0, .ref 0), (1, .int v1), (2, .int v2), (4, .int v4), (5, .int v5), (6, .int v6)]) (st' := [.int v6]) (σ' := σ) (by decide +kernel) rfl rfl rfl ?_
    refine fhW.z_eq hΓ (tgt := 142) (show fhbk _ _ (.ifCond .eq (7)) _ = true by decide +kernel) (fun hc => ?_) (fun hc => ?_)
    · rw [if_pos hc] at h
      refine fhW.sub (lv' := [(0, .ref 0), (1, .int v1), (2, .int v2), (3, .int s0), (5, .int v5)]) [1, 2, 3, 0, 5] rfl ?_
      exact L_X12_knows_142 hΓ hd v1 v2 s0 v5 σ _ h hk
    · rw [if_neg hc] at h
      refine fhW.blk fhPM fhLL hΓ [(.iconst 1, 1)] (pc' := 139) (lv' := [(3, .int s0), (0, .ref 0), (1, .int v1), (2, .int v2), (4, .int v4), (5, .int v5), (6, .int v6)]) (st' := [.int (1 : Int32)]) (σ' := σ) (by decide +kernel) rfl rfl rfl ?_
      refine fhW.goto hΓ (off := 4) (tgt := 143) (by decide +kernel) ?_
      refine fhW.sub (lv' := [(0, .ref 0), (1, .int v1), (2, .int v2), (3, .int s0), (5, .int v5)]) [1, 2, 3, 0, 5] rfl ?_
      exact L_X12_knows_143 hΓ hd v1 v2 s0 v5 (1 : Int32) σ _ h hk
set_option maxRecDepth 100000 in
set_option maxHeartbeats 4000000 in
theorem L_X12_knows_122 {Γ : fhX} (hΓ : fhOk fhYM 12 cX12_knows 7 (some .int) Γ) (hd : 3 ≤ fhD Γ) (v1 : Int32) (v2 : Int32) (v4 : Int32) (v5 : Int32) (v6 : Int32)  (σ : fhM) (o : (Int32 × Int32 × Int32) ⊕ (Int32 × fhM)) (h : f_X12_knows_122 v1 v2 v4 v5 v6 σ = some o) (hk : (fhK (fun x => fhW fhYM Γ 37 [(0, .ref 0), (1, .int v1), (2, .int v2), (3, .int x.1), (4, .int x.2.1), (5, .int x.2.2)] [] σ) (fun o => fhRet Γ (some (.int o.1)) o.2)) o) : fhW fhYM Γ 122 [(0, .ref 0), (1, .int v1), (2, .int v2), (4, .int v4), (5, .int v5), (6, .int v6)] [] σ := by
  unfold f_X12_knows_122 at h
  refine fhW.blk fhPM fhLL hΓ [(.iconst 1, 1)] (pc' := 123) (lv' := [(0, .ref 0), (1, .int v1), (2, .int v2), (4, .int v4), (5, .int v5), (6, .int v6)]) (st' := [.int (1 : Int32)]) (σ' := σ) (by decide +kernel) rfl rfl rfl ?_
  refine fhW.goto hΓ (off := 4) (tgt := 127) (by decide +kernel) ?_
  refine fhW.sub (lv' := [(0, .ref 0), (1, .int v1), (2, .int v2), (4, .int v4), (5, .int v5), (6, .int v6)]) [0, 1, 2, 3, 4, 5] rfl ?_
  exact L_X12_knows_127 hΓ hd v1 v2 v4 v5 v6 (1 : Int32) σ _ h hk
set_option maxRecDepth 100000 in
set_option maxHeartbeats 4000000 in
theorem L_X12_knows_111 {Γ : fhX} (hΓ : fhOk fhYM 12 cX12_knows 7 (some .int) Γ) (hd : 3 ≤ fhD Γ) (v1 : Int32) (v2 : Int32) (v3 : Int32) (v4 : Int32) (v5 : Int32) (s0 : Int32)  (σ : fhM) (o : (Int32 × Int32 × Int32) ⊕ (Int32 × fhM)) (h : f_X12_knows_111 v1 v2 v3 v4 v5 s0 σ = some o) (hk : (fhK (fun x => fhW fhYM Γ 37 [(0, .ref 0), (1, .int v1), (2, .int v2), (3, .int x.1), (4, .int x.2.1), (5, .int x.2.2)] [] σ) (fun o => fhRet Γ (some (.int o.1)) o.2)) o) : fhW fhYM Γ 111 [(0, .ref 0), (1, .int v1), (2, .int v2), (3, .int v3), (4, .int v4), (5, .int v5)] [.int s0] σ := by
  unfold f_X12_knows_111 at h
  refine fhW.blk fhPM fhLL hΓ [(.istore 6, 0), (.iload_n 3, 0)] (pc' := 114) (lv' := [(6, .int s0), (0, .ref 0), (1, .int v1), (2, .int v2), (3, .int v3), (4, .int v4), (5, .int v5)]) (st' := [.int v3]) (σ' := σ) (by decide +kernel) rfl rfl rfl ?_
  refine fhW.z_ne hΓ (tgt := 122) (show fhbk _ _ (.ifCond .ne (8)) _ = true by decide +kernel) (fun hc => ?_) (fun hc => ?_)
  · rw [if_neg hc] at h
    refine fhW.sub (lv' := [(0, .ref 0), (1, .int v1), (2, .int v2), (4, .int v4), (5, .int v5), (6, .int s0)]) [1, 2, 3, 5, 6, 0] rfl ?_
    exact L_X12_knows_122 hΓ hd v1 v2 v4 v5 s0 σ _ h hk
  · rw [if_pos hc] at h
    refine fhW.blk fhPM fhLL hΓ [(.iload 6, 0)] (pc' := 119) (lv' := [(6, .int s0), (0, .ref 0), (1, .int v1), (2, .int v2), (3, .int v3), (4, .int v4), (5, .int v5)]) (st' := [.int s0]) (σ' := σ) (by decide +kernel) rfl rfl rfl ?_
    refine fhW.z_eq hΓ (tgt := 126) (show fhbk _ _ (.ifCond .eq (7)) _ = true by decide +kernel) (fun hc => ?_) (fun hc => ?_)
    · rw [if_pos hc] at h
      refine fhW.blk fhPM fhLL hΓ [(.iconst 0, 0)] (pc' := 127) (lv' := [(6, .int s0), (0, .ref 0), (1, .int v1), (2, .int v2), (3, .int v3), (4, .int v4), (5, .int v5)]) (st' := [.int (0 : Int32)]) (σ' := σ) (by decide +kernel) rfl rfl rfl ?_
      refine fhW.sub (lv' := [(0, .ref 0), (1, .int v1), (2, .int v2), (4, .int v4), (5, .int v5), (6, .int s0)]) [1, 2, 3, 5, 6, 0] rfl ?_
      exact L_X12_knows_127 hΓ hd v1 v2 v4 v5 s0 (0 : Int32) σ _ h hk
    · rw [if_neg hc] at h
      refine fhW.sub (lv' := [(0, .ref 0), (1, .int v1), (2, .int v2), (4, .int v4), (5, .int v5), (6, .int s0)]) [1, 2, 3, 5, 6, 0] rfl ?_
      exact L_X12_knows_122 hΓ hd v1 v2 v4 v5 s0 σ _ h hk
set_option maxRecDepth 100000 in
set_option maxHeartbeats 4000000 in
theorem L_X12_knows_37 {Γ : fhX} (hΓ : fhOk fhYM 12 cX12_knows 7 (some .int) Γ) (hd : 3 ≤ fhD Γ) (v1 : Int32) (v2 : Int32) (v3 : Int32) (v4 : Int32) (v5 : Int32)  (σ : fhM) (o : (Int32 × Int32 × Int32) ⊕ (Int32 × fhM)) (h : f_X12_knows_37 v1 v2 v3 v4 v5 σ = some o) (hk : (fhK (fun x => fhW fhYM Γ 37 [(0, .ref 0), (1, .int v1), (2, .int v2), (3, .int x.1), (4, .int x.2.1), (5, .int x.2.2)] [] σ) (fun o => fhRet Γ (some (.int o.1)) o.2)) o) : fhW fhYM Γ 37 [(0, .ref 0), (1, .int v1), (2, .int v2), (3, .int v3), (4, .int v4), (5, .int v5)] [] σ := by
  unfold f_X12_knows_37 at h
  refine fhW.blk fhPM fhLL hΓ [(.iload 5, 0), (.aload_n 0, 0), (.getfield 432, 0)] (pc' := 43) (lv' := [(0, .ref 0), (1, .int v1), (2, .int v2), (3, .int v3), (4, .int v4), (5, .int v5)]) (st' := [.int (σ.1 0 52), .int v5]) (σ' := σ) (by decide +kernel) rfl rfl rfl ?_
  refine fhW.i_ge hΓ (tgt := 151) (show fhbk _ _ (.if_icmp .ge (108)) _ = true by decide +kernel) (fun hc => ?_) (fun hc => ?_)
  · rw [if_pos hc] at h
    refine fhW.blk fhPM fhLL hΓ [(.iload 4, 0)] (pc' := 153) (lv' := [(0, .ref 0), (1, .int v1), (2, .int v2), (3, .int v3), (4, .int v4), (5, .int v5)]) (st' := [.int v4]) (σ' := σ) (by decide +kernel) rfl rfl rfl ?_
    refine fhW.z_eq hΓ (tgt := 160) (show fhbk _ _ (.ifCond .eq (7)) _ = true by decide +kernel) (fun hc => ?_) (fun hc => ?_)
    · rw [if_pos hc] at h
      refine fhW.blk fhPM fhLL hΓ [(.iload_n 3, 0)] (pc' := 161) (lv' := [(0, .ref 0), (1, .int v1), (2, .int v2), (3, .int v3), (4, .int v4), (5, .int v5)]) (st' := [.int v3]) (σ' := σ) (by decide +kernel) rfl rfl rfl ?_
      refine fhW.z_eq hΓ (tgt := 168) (show fhbk _ _ (.ifCond .eq (7)) _ = true by decide +kernel) (fun hc => ?_) (fun hc => ?_)
      · rw [if_pos hc] at h
        refine fhW.blk fhPM fhLL hΓ [(.iconst 2, 2)] (pc' := 169) (lv' := [(0, .ref 0), (1, .int v1), (2, .int v2), (3, .int v3), (4, .int v4), (5, .int v5)]) (st' := [.int (2 : Int32)]) (σ' := σ) (by decide +kernel) rfl rfl rfl ?_
        have e9 := Option.some.inj h
        subst e9
        exact fhW.iret hΓ (by decide +kernel) hk
      · rw [if_neg hc] at h
        refine fhW.blk fhPM fhLL hΓ [(.iconst 0, 0)] (pc' := 165) (lv' := [(0, .ref 0), (1, .int v1), (2, .int v2), (3, .int v3), (4, .int v4), (5, .int v5)]) (st' := [.int (0 : Int32)]) (σ' := σ) (by decide +kernel) rfl rfl rfl ?_
        refine fhW.goto hΓ (off := 4) (tgt := 169) (by decide +kernel) ?_
        have e9 := Option.some.inj h
        subst e9
        exact fhW.iret hΓ (by decide +kernel) hk
    · rw [if_neg hc] at h
      refine fhW.blk fhPM fhLL hΓ [(.iconst 1, 1)] (pc' := 157) (lv' := [(0, .ref 0), (1, .int v1), (2, .int v2), (3, .int v3), (4, .int v4), (5, .int v5)]) (st' := [.int (1 : Int32)]) (σ' := σ) (by decide +kernel) rfl rfl rfl ?_
      refine fhW.goto hΓ (off := 12) (tgt := 169) (by decide +kernel) ?_
      have e9 := Option.some.inj h
      subst e9
      exact fhW.iret hΓ (by decide +kernel) hk
  · rw [if_neg hc] at h
    refine fhW.blk fhPM fhLL hΓ [(.aload_n 0, 0), (.iload 5, 0)] (pc' := 49) (lv' := [(0, .ref 0), (1, .int v1), (2, .int v2), (3, .int v3), (4, .int v4), (5, .int v5)]) (st' := [.int v5, .ref 0]) (σ' := σ) (by decide +kernel) rfl rfl rfl ?_
    obtain ⟨q2, hb1, h⟩ := Option.bind_eq_some_iff.mp h
    refine fhW.callv hΓ mvX12_isLeft ml_12_478 (t := 0) (ci := 12) (av := [.int v5]) (rest := []) (r := (some (.int (fhb q2)))) (σ' := σ) (T_X12_isLeft (E := fhEn Γ) (d := fhD Γ - 1) (by omega) v5 σ hb1) (by omega) (by decide +kernel) rfl rfl rfl (Nat.le_of_ble_eq_true rfl) rfl ?_
    show fhW fhYM Γ 52 [(0, .ref 0), (1, .int v1), (2, .int v2), (3, .int v3), (4, .int v4), (5, .int v5)] [.int (fhb q2)] σ
    refine fhW.b_eq hΓ (tgt := 145) (show fhbk _ _ (.ifCond .eq (93)) _ = true by decide +kernel) (fun hc => ?_) (fun hc => ?_)
    · rw [if_neg hc] at h
      refine fhW.sub (lv' := [(0, .ref 0), (1, .int v1), (2, .int v2), (3, .int v3), (4, .int v4), (5, .int v5)]) [0, 1, 2, 3, 4, 5] rfl ?_
      exact L_X12_knows_145 hΓ hd v1 v2 v3 v4 v5 σ _ h hk
    · rw [if_pos hc] at h
      obtain ⟨hg1, h⟩ := fhif h
      refine fhW.blk fhPM fhLL hΓ [(.aload_n 0, 0), (.getfield 131, 0), (.sipush 1024, 1024), (.iload_n 1, 0), (.imul, 0), (.iload 5, 0), (.iadd, 0), (.iaload, 0), (.aload_n 0, 0), (.getfield 131, 0), (.sipush 1024, 1024), (.iload_n 1, 0), (.imul, 0), (.aload_n 0, 0), (.getfield 147, 0), (.iconst 1, 1), (.iaload, 0), (.iadd, 0), (.iaload, 0)] (pc' := 85) (lv' := [(0, .ref 0), (1, .int v1), (2, .int v2), (3, .int v3), (4, .int v4), (5, .int v5)]) (st' := [.int (σ.1 39 (fhix (((1024 : Int32) * v1) + (σ.1 44 1)))), .int (σ.1 39 (fhix (((1024 : Int32) * v1) + v5)))]) (σ' := σ) (by decide +kernel) rfl rfl hg1 ?_
      refine fhW.i_eq hΓ (tgt := 91) (show fhbk _ _ (.if_icmp .eq (6)) _ = true by decide +kernel) (fun hc => ?_) (fun hc => ?_)
      · rw [if_pos hc] at h
        obtain ⟨hg2, h⟩ := fhif h
        refine fhW.blk fhPM fhLL hΓ [(.aload_n 0, 0), (.getfield 153, 0), (.iload 5, 0), (.iaload, 0), (.iload_n 2, 0), (.ishr, 0), (.iconst 1, 1), (.iand, 0), (.iconst 1, 1)] (pc' := 103) (lv' := [(0, .ref 0), (1, .int v1), (2, .int v2), (3, .int v3), (4, .int v4), (5, .int v5)]) (st' := [.int (1 : Int32), .int (((σ.1 46 (fhix v5)) >>> (v2 &&& 31)) &&& (1 : Int32))]) (σ' := σ) (by decide +kernel) rfl rfl hg2 ?_
        refine fhW.i_ne hΓ (tgt := 110) (show fhbk _ _ (.if_icmp .ne (7)) _ = true by decide +kernel) (fun hc => ?_) (fun hc => ?_)
        · simp only [if_neg hc] at h
          refine fhW.blk fhPM fhLL hΓ [(.iconst 0, 0)] (pc' := 111) (lv' := [(0, .ref 0), (1, .int v1), (2, .int v2), (3, .int v3), (4, .int v4), (5, .int v5)]) (st' := [.int (0 : Int32)]) (σ' := σ) (by decide +kernel) rfl rfl rfl ?_
          refine fhW.sub (lv' := [(0, .ref 0), (1, .int v1), (2, .int v2), (3, .int v3), (4, .int v4), (5, .int v5)]) [0, 1, 2, 3, 4, 5] rfl ?_
          exact L_X12_knows_111 hΓ hd v1 v2 v3 v4 v5 (0 : Int32) σ _ h hk
        · simp only [if_pos hc] at h
          refine fhW.blk fhPM fhLL hΓ [(.iconst 1, 1)] (pc' := 107) (lv' := [(0, .ref 0), (1, .int v1), (2, .int v2), (3, .int v3), (4, .int v4), (5, .int v5)]) (st' := [.int (1 : Int32)]) (σ' := σ) (by decide +kernel) rfl rfl rfl ?_
          refine fhW.goto hΓ (off := 4) (tgt := 111) (by decide +kernel) ?_
          refine fhW.sub (lv' := [(0, .ref 0), (1, .int v1), (2, .int v2), (3, .int v3), (4, .int v4), (5, .int v5)]) [0, 1, 2, 3, 4, 5] rfl ?_
          exact L_X12_knows_111 hΓ hd v1 v2 v3 v4 v5 (1 : Int32) σ _ h hk
      · rw [if_neg hc] at h
        refine fhW.goto hΓ (off := 57) (tgt := 145) (by decide +kernel) ?_
        refine fhW.sub (lv' := [(0, .ref 0), (1, .int v1), (2, .int v2), (3, .int v3), (4, .int v4), (5, .int v5)]) [0, 1, 2, 3, 4, 5] rfl ?_
        exact L_X12_knows_145 hΓ hd v1 v2 v3 v4 v5 σ _ h hk
set_option maxRecDepth 100000 in
set_option maxHeartbeats 4000000 in
theorem L_X12_knows_E {Γ : fhX} (hΓ : fhOk fhYM 12 cX12_knows 7 (some .int) Γ) (hd : 3 ≤ fhD Γ) (v1 : Int32) (v2 : Int32)  (σ : fhM) (o : Int32 × fhM) (h : f_X12_knows v1 v2 σ = some o) (hk : (fun o => fhRet Γ (some (.int o.1)) o.2) o) : fhW fhYM Γ 0 [(0, .ref 0), (1, .int v1), (2, .int v2)] [] σ := by
  unfold f_X12_knows at h
  refine fhW.blk fhPM fhLL hΓ [(.aload_n 0, 0), (.iload_n 1, 0), (.i2l, 0)] (pc' := 3) (lv' := [(0, .ref 0), (1, .int v1), (2, .int v2)]) (st' := [.long (Int32.toInt64 v1), .ref 0]) (σ' := σ) (by decide +kernel) rfl rfl rfl ?_
  refine fhW.callv hΓ mvX12_isGuest ml_12_505 (t := 0) (ci := 12) (av := [.long (Int32.toInt64 v1)]) (rest := []) (r := (some (.int (fhb (f_X12_isGuest (Int32.toInt64 v1) σ))))) (σ' := σ) (T_X12_isGuest (E := fhEn Γ) (d := fhD Γ - 1) (by omega) (Int32.toInt64 v1) σ) (by omega) (by decide +kernel) rfl rfl rfl (Nat.le_of_ble_eq_true rfl) rfl ?_
  show fhW fhYM Γ 6 [(0, .ref 0), (1, .int v1), (2, .int v2)] [.int (fhb (f_X12_isGuest (Int32.toInt64 v1) σ))] σ
  refine fhW.b_eq hΓ (tgt := 23) (show fhbk _ _ (.ifCond .eq (17)) _ = true by decide +kernel) (fun hc => ?_) (fun hc => ?_)
  · rw [if_neg hc] at h
    refine fhW.blk fhPM fhLL hΓ [(.iconst (-1), -1)] (pc' := 24) (lv' := [(0, .ref 0), (1, .int v1), (2, .int v2)]) (st' := [.int (-1 : Int32)]) (σ' := σ) (by decide +kernel) rfl rfl rfl ?_
    have e9 := Option.some.inj h
    subst e9
    exact fhW.iret hΓ (by decide +kernel) hk
  · rw [if_pos hc] at h
    refine fhW.blk fhPM fhLL hΓ [(.aload_n 0, 0), (.iload_n 2, 0), (.i2l, 0)] (pc' := 12) (lv' := [(0, .ref 0), (1, .int v1), (2, .int v2)]) (st' := [.long (Int32.toInt64 v2), .ref 0]) (σ' := σ) (by decide +kernel) rfl rfl rfl ?_
    refine fhW.callv hΓ mvX12_isGuest ml_12_505 (t := 0) (ci := 12) (av := [.long (Int32.toInt64 v2)]) (rest := []) (r := (some (.int (fhb (f_X12_isGuest (Int32.toInt64 v2) σ))))) (σ' := σ) (T_X12_isGuest (E := fhEn Γ) (d := fhD Γ - 1) (by omega) (Int32.toInt64 v2) σ) (by omega) (by decide +kernel) rfl rfl rfl (Nat.le_of_ble_eq_true rfl) rfl ?_
    show fhW fhYM Γ 15 [(0, .ref 0), (1, .int v1), (2, .int v2)] [.int (fhb (f_X12_isGuest (Int32.toInt64 v2) σ))] σ
    refine fhW.b_eq hΓ (tgt := 23) (show fhbk _ _ (.ifCond .eq (8)) _ = true by decide +kernel) (fun hc => ?_) (fun hc => ?_)
    · rw [if_neg hc] at h
      refine fhW.blk fhPM fhLL hΓ [(.iconst (-1), -1)] (pc' := 24) (lv' := [(0, .ref 0), (1, .int v1), (2, .int v2)]) (st' := [.int (-1 : Int32)]) (σ' := σ) (by decide +kernel) rfl rfl rfl ?_
      have e9 := Option.some.inj h
      subst e9
      exact fhW.iret hΓ (by decide +kernel) hk
    · rw [if_pos hc] at h
      refine fhW.blk fhPM fhLL hΓ [(.iload_n 1, 0), (.iload_n 2, 0)] (pc' := 20) (lv' := [(0, .ref 0), (1, .int v1), (2, .int v2)]) (st' := [.int v2, .int v1]) (σ' := σ) (by decide +kernel) rfl rfl rfl ?_
      refine fhW.i_ne hΓ (tgt := 25) (show fhbk _ _ (.if_icmp .ne (5)) _ = true by decide +kernel) (fun hc => ?_) (fun hc => ?_)
      · rw [if_neg hc] at h
        refine fhW.blk fhPM fhLL hΓ [(.iconst 0, 0), (.istore_n 3, 0), (.iconst 1, 1), (.istore 4, 0), (.aload_n 0, 0)] (pc' := 31) (lv' := [(4, .int (1 : Int32)), (3, .int (0 : Int32)), (0, .ref 0), (1, .int v1), (2, .int v2)]) (st' := [.ref 0]) (σ' := σ) (by decide +kernel) rfl rfl rfl ?_
        obtain ⟨q1, hb2, h⟩ := Option.bind_eq_some_iff.mp h
        refine fhW.callv hΓ mvX12_laysKnowing ml_12_490 (t := 0) (ci := 12) (av := []) (rest := []) (r := none) (σ' := q1) (T_X12_laysKnowing (E := fhEn Γ) (d := fhD Γ - 1) (by omega) σ hb2) (by omega) (by decide +kernel) rfl rfl rfl (Nat.le_of_ble_eq_true rfl) rfl ?_
        show fhW fhYM Γ 34 [(4, .int (1 : Int32)), (3, .int (0 : Int32)), (0, .ref 0), (1, .int v1), (2, .int v2)] [] q1
        refine fhW.blk fhPM fhLL hΓ [(.iconst 0, 0), (.istore 5, 0)] (pc' := 37) (lv' := [(5, .int (0 : Int32)), (4, .int (1 : Int32)), (3, .int (0 : Int32)), (0, .ref 0), (1, .int v1), (2, .int v2)]) (st' := []) (σ' := q1) (by decide +kernel) rfl rfl rfl ?_
        refine fhW.sub (lv' := [(0, .ref 0), (1, .int v1), (2, .int v2), (3, .int (0 : Int32)), (4, .int (1 : Int32)), (5, .int (0 : Int32))]) [3, 4, 5, 2, 1, 0] rfl ?_
        exact fhlp_ok (W := (fun x => fhW fhYM Γ 37 [(0, .ref 0), (1, .int v1), (2, .int v2), (3, .int x.1), (4, .int x.2.1), (5, .int x.2.2)] [] q1)) (B := (fun o => fhRet Γ (some (.int o.1)) o.2)) (fun x o h hk => L_X12_knows_37 hΓ hd v1 v2 x.1 x.2.1 x.2.2 q1 o h hk) ((0 : Int32), (1 : Int32), (0 : Int32)) _ h hk
      · rw [if_pos hc] at h
        refine fhW.blk fhPM fhLL hΓ [(.iconst (-1), -1)] (pc' := 24) (lv' := [(0, .ref 0), (1, .int v1), (2, .int v2)]) (st' := [.int (-1 : Int32)]) (σ' := σ) (by decide +kernel) rfl rfl rfl ?_
        have e9 := Option.some.inj h
        subst e9
        exact fhW.iret hΓ (by decide +kernel) hk
set_option maxRecDepth 100000 in
theorem T_X12_knows {E : fhE} {d : Nat} (hd : 3 ≤ d) (v1 : Int32) (v2 : Int32)  (σ : fhM) {o : Int32 × fhM} (h : f_X12_knows v1 v2 σ = some o) : fhC fhYM E d miX12_knows [.ref 0, .int v1, .int v2] σ (some (.int o.1)) o.2 := by
  refine fhC.of (y := yX12_knows) (cc := cX12_knows) (nL := 7) (ret := (some .int)) 12 rfl (by decide +kernel) (Nat.le_of_ble_eq_true rfl) ?_
  intro Γ hΓ hR hD hEn
  subst hD; subst hEn
  exact L_X12_knows_E hΓ hd v1 v2  σ _ h hR
set_option maxRecDepth 100000 in
set_option maxHeartbeats 4000000 in
theorem L_X12_goesDeeper_158 {Γ : fhX} (hΓ : fhOk fhYM 12 cX12_goesDeeper 3 none Γ) (hd : 1 ≤ fhD Γ) (v1 : Int32) (v2 : Int32)  (σ : fhM) (o : (Int32 × fhM) ⊕ ((Int32 × fhM) ⊕ (fhM))) (h : f_X12_goesDeeper_158 v1 v2 σ = some o) (hk : (fhK (fun x => fhW fhYM Γ 122 [(0, .ref 0), (1, .int v1), (2, .int x.1)] [] x.2) (fhK (fun x => fhW fhYM Γ 38 [(0, .ref 0), (1, .int x.1)] [] x.2) (fun o => fhRet Γ none o))) o) : fhW fhYM Γ 158 [(0, .ref 0), (1, .int v1), (2, .int v2)] [] σ := by
  unfold f_X12_goesDeeper_158 at h
  refine fhW.blk fhPM fhLL hΓ [(.iinc 2 1, 1)] (pc' := 161) (lv' := [(2, .int (v2 + (1 : Int32))), (0, .ref 0), (1, .int v1)]) (st' := []) (σ' := σ) (by decide +kernel) rfl rfl rfl ?_
  refine fhW.goto hΓ (off := (-39)) (tgt := 122) (by decide +kernel) ?_
  refine fhW.sub (lv' := [(0, .ref 0), (1, .int v1), (2, .int (v2 + (1 : Int32)))]) [1, 2, 0] rfl ?_
  have e9 := Option.some.inj h
  subst e9
  exact hk
set_option maxRecDepth 100000 in
set_option maxHeartbeats 4000000 in
theorem L_X12_goesDeeper_122 {Γ : fhX} (hΓ : fhOk fhYM 12 cX12_goesDeeper 3 none Γ) (hd : 1 ≤ fhD Γ) (v1 : Int32) (v2 : Int32)  (σ : fhM) (o : (Int32 × fhM) ⊕ ((Int32 × fhM) ⊕ (fhM))) (h : f_X12_goesDeeper_122 v1 v2 σ = some o) (hk : (fhK (fun x => fhW fhYM Γ 122 [(0, .ref 0), (1, .int v1), (2, .int x.1)] [] x.2) (fhK (fun x => fhW fhYM Γ 38 [(0, .ref 0), (1, .int x.1)] [] x.2) (fun o => fhRet Γ none o))) o) : fhW fhYM Γ 122 [(0, .ref 0), (1, .int v1), (2, .int v2)] [] σ := by
  unfold f_X12_goesDeeper_122 at h
  refine fhW.blk fhPM fhLL hΓ [(.iload_n 2, 0), (.aload_n 0, 0), (.getfield 432, 0)] (pc' := 127) (lv' := [(0, .ref 0), (1, .int v1), (2, .int v2)]) (st' := [.int (σ.1 0 52), .int v2]) (σ' := σ) (by decide +kernel) rfl rfl rfl ?_
  refine fhW.i_ge hΓ (tgt := 164) (show fhbk _ _ (.if_icmp .ge (37)) _ = true by decide +kernel) (fun hc => ?_) (fun hc => ?_)
  · rw [if_pos hc] at h
    refine fhW.blk fhPM fhLL hΓ [(.iinc 1 1, 1)] (pc' := 167) (lv' := [(1, .int (v1 + (1 : Int32))), (0, .ref 0), (2, .int v2)]) (st' := []) (σ' := σ) (by decide +kernel) rfl rfl rfl ?_
    refine fhW.goto hΓ (off := (-129)) (tgt := 38) (by decide +kernel) ?_
    refine fhW.sub (lv' := [(0, .ref 0), (1, .int (v1 + (1 : Int32)))]) [1, 0] rfl ?_
    have e9 := Option.some.inj h
    subst e9
    exact hk
  · rw [if_neg hc] at h
    obtain ⟨hg1, h⟩ := fhif h
    refine fhW.blk fhPM fhLL hΓ [(.aload_n 0, 0), (.getfield 140, 0), (.aload_n 0, 0), (.getfield 131, 0), (.sipush 1024, 1024), (.iload_n 1, 0), (.imul, 0), (.iload_n 2, 0), (.iadd, 0), (.iaload, 0), (.iaload, 0), (.iconst 1, 1)] (pc' := 148) (lv' := [(0, .ref 0), (1, .int v1), (2, .int v2)]) (st' := [.int (1 : Int32), .int (σ.1 42 (fhix (σ.1 39 (fhix (((1024 : Int32) * v1) + v2)))))]) (σ' := σ) (by decide +kernel) rfl rfl hg1 ?_
    refine fhW.i_ne hΓ (tgt := 158) (show fhbk _ _ (.if_icmp .ne (10)) _ = true by decide +kernel) (fun hc => ?_) (fun hc => ?_)
    · rw [if_neg hc] at h
      refine fhW.sub (lv' := [(0, .ref 0), (1, .int v1), (2, .int v2)]) [0, 1, 2] rfl ?_
      exact L_X12_goesDeeper_158 hΓ hd v1 v2 σ _ h hk
    · rw [if_pos hc] at h
      obtain ⟨hg2, h⟩ := fhif h
      refine fhW.blk fhPM fhLL hΓ [(.aload_n 0, 0), (.getfield 162, 0), (.iload_n 2, 0), (.iconst 0, 0), (.bastore, 0)] (pc' := 158) (lv' := [(0, .ref 0), (1, .int v1), (2, .int v2)]) (st' := []) (σ' := (fhI σ 49 (fhix v2) ((0 : Int32) &&& 1))) (by decide +kernel) rfl rfl hg2 ?_
      refine fhW.sub (lv' := [(0, .ref 0), (1, .int v1), (2, .int v2)]) [0, 1, 2] rfl ?_
      exact L_X12_goesDeeper_158 hΓ hd v1 v2 (fhI σ 49 (fhix v2) ((0 : Int32) &&& 1)) _ h hk
set_option maxRecDepth 100000 in
set_option maxHeartbeats 4000000 in
theorem L_X12_goesDeeper_114 {Γ : fhX} (hΓ : fhOk fhYM 12 cX12_goesDeeper 3 none Γ) (hd : 1 ≤ fhD Γ) (v1 : Int32) (v2 : Int32)  (σ : fhM) (o : (Int32 × fhM) ⊕ ((Int32 × fhM) ⊕ (fhM))) (h : f_X12_goesDeeper_114 v1 v2 σ = some o) (hk : (fhK (fun x => fhW fhYM Γ 71 [(0, .ref 0), (1, .int v1), (2, .int x.1)] [] x.2) (fhK (fun x => fhW fhYM Γ 38 [(0, .ref 0), (1, .int x.1)] [] x.2) (fun o => fhRet Γ none o))) o) : fhW fhYM Γ 114 [(0, .ref 0), (1, .int v1), (2, .int v2)] [] σ := by
  unfold f_X12_goesDeeper_114 at h
  refine fhW.blk fhPM fhLL hΓ [(.iinc 2 1, 1)] (pc' := 117) (lv' := [(2, .int (v2 + (1 : Int32))), (0, .ref 0), (1, .int v1)]) (st' := []) (σ' := σ) (by decide +kernel) rfl rfl rfl ?_
  refine fhW.goto hΓ (off := (-46)) (tgt := 71) (by decide +kernel) ?_
  refine fhW.sub (lv' := [(0, .ref 0), (1, .int v1), (2, .int (v2 + (1 : Int32)))]) [1, 2, 0] rfl ?_
  have e9 := Option.some.inj h
  subst e9
  exact hk
set_option maxRecDepth 100000 in
set_option maxHeartbeats 4000000 in
theorem L_X12_goesDeeper_71 {Γ : fhX} (hΓ : fhOk fhYM 12 cX12_goesDeeper 3 none Γ) (hd : 1 ≤ fhD Γ) (v1 : Int32) (v2 : Int32)  (σ : fhM) (o : (Int32 × fhM) ⊕ ((Int32 × fhM) ⊕ (fhM))) (h : f_X12_goesDeeper_71 v1 v2 σ = some o) (hk : (fhK (fun x => fhW fhYM Γ 71 [(0, .ref 0), (1, .int v1), (2, .int x.1)] [] x.2) (fhK (fun x => fhW fhYM Γ 38 [(0, .ref 0), (1, .int x.1)] [] x.2) (fun o => fhRet Γ none o))) o) : fhW fhYM Γ 71 [(0, .ref 0), (1, .int v1), (2, .int v2)] [] σ := by
  unfold f_X12_goesDeeper_71 at h
  refine fhW.blk fhPM fhLL hΓ [(.iload_n 2, 0), (.aload_n 0, 0), (.getfield 432, 0)] (pc' := 76) (lv' := [(0, .ref 0), (1, .int v1), (2, .int v2)]) (st' := [.int (σ.1 0 52), .int v2]) (σ' := σ) (by decide +kernel) rfl rfl rfl ?_
  refine fhW.i_ge hΓ (tgt := 120) (show fhbk _ _ (.if_icmp .ge (44)) _ = true by decide +kernel) (fun hc => ?_) (fun hc => ?_)
  · rw [if_pos hc] at h
    refine fhW.blk fhPM fhLL hΓ [(.iconst 0, 0), (.istore_n 2, 0)] (pc' := 122) (lv' := [(2, .int (0 : Int32)), (0, .ref 0), (1, .int v1)]) (st' := []) (σ' := σ) (by decide +kernel) rfl rfl rfl ?_
    refine fhW.sub (lv' := [(0, .ref 0), (1, .int v1), (2, .int (0 : Int32))]) [1, 2, 0] rfl ?_
    obtain ⟨z1, hz, e1⟩ := Option.map_eq_some_iff.mp h
    clear h
    subst e1
    have h := hz
    have hk : (fhK (fun x => fhW fhYM Γ 38 [(0, .ref 0), (1, .int x.1)] [] x.2) (fun o => fhRet Γ none o)) z1 := hk
    exact fhlp_ok (W := (fun x => fhW fhYM Γ 122 [(0, .ref 0), (1, .int v1), (2, .int x.1)] [] x.2)) (B := (fhK (fun x => fhW fhYM Γ 38 [(0, .ref 0), (1, .int x.1)] [] x.2) (fun o => fhRet Γ none o))) (fun x o h hk => L_X12_goesDeeper_122 hΓ hd v1 x.1 x.2 o h hk) ((0 : Int32), σ) _ h hk
  · rw [if_neg hc] at h
    refine fhW.blk fhPM fhLL hΓ [(.aload_n 0, 0), (.iload_n 2, 0)] (pc' := 81) (lv' := [(0, .ref 0), (1, .int v1), (2, .int v2)]) (st' := [.int v2, .ref 0]) (σ' := σ) (by decide +kernel) rfl rfl rfl ?_
    obtain ⟨q1, hb1, h⟩ := Option.bind_eq_some_iff.mp h
    refine fhW.callv hΓ mvX12_isLeft ml_12_478 (t := 0) (ci := 12) (av := [.int v2]) (rest := []) (r := (some (.int (fhb q1)))) (σ' := σ) (T_X12_isLeft (E := fhEn Γ) (d := fhD Γ - 1) (by omega) v2 σ hb1) (by omega) (by decide +kernel) rfl rfl rfl (Nat.le_of_ble_eq_true rfl) rfl ?_
    show fhW fhYM Γ 84 [(0, .ref 0), (1, .int v1), (2, .int v2)] [.int (fhb q1)] σ
    refine fhW.b_eq hΓ (tgt := 114) (show fhbk _ _ (.ifCond .eq (30)) _ = true by decide +kernel) (fun hc => ?_) (fun hc => ?_)
    · rw [if_neg hc] at h
      refine fhW.sub (lv' := [(0, .ref 0), (1, .int v1), (2, .int v2)]) [0, 1, 2] rfl ?_
      exact L_X12_goesDeeper_114 hΓ hd v1 v2 σ _ h hk
    · rw [if_pos hc] at h
      obtain ⟨hg3, h⟩ := fhif h
      refine fhW.blk fhPM fhLL hΓ [(.aload_n 0, 0), (.getfield 153, 0), (.iload_n 2, 0), (.iaload, 0)] (pc' := 93) (lv' := [(0, .ref 0), (1, .int v1), (2, .int v2)]) (st' := [.int (σ.1 46 (fhix v2))]) (σ' := σ) (by decide +kernel) rfl rfl hg3 ?_
      refine fhW.z_ne hΓ (tgt := 114) (show fhbk _ _ (.ifCond .ne (21)) _ = true by decide +kernel) (fun hc => ?_) (fun hc => ?_)
      · rw [if_neg hc] at h
        refine fhW.sub (lv' := [(0, .ref 0), (1, .int v1), (2, .int v2)]) [0, 1, 2] rfl ?_
        exact L_X12_goesDeeper_114 hΓ hd v1 v2 σ _ h hk
      · rw [if_pos hc] at h
        obtain ⟨hg4, h⟩ := fhif h
        refine fhW.blk fhPM fhLL hΓ [(.aload_n 0, 0), (.getfield 140, 0), (.aload_n 0, 0), (.getfield 131, 0), (.sipush 1024, 1024), (.iload_n 1, 0), (.imul, 0), (.iload_n 2, 0), (.iadd, 0), (.iaload, 0), (.iconst 1, 1), (.iastore, 0)] (pc' := 114) (lv' := [(0, .ref 0), (1, .int v1), (2, .int v2)]) (st' := []) (σ' := (fhI σ 42 (fhix (σ.1 39 (fhix (((1024 : Int32) * v1) + v2)))) (1 : Int32))) (by decide +kernel) rfl rfl hg4 ?_
        refine fhW.sub (lv' := [(0, .ref 0), (1, .int v1), (2, .int v2)]) [0, 1, 2] rfl ?_
        exact L_X12_goesDeeper_114 hΓ hd v1 v2 (fhI σ 42 (fhix (σ.1 39 (fhix (((1024 : Int32) * v1) + v2)))) (1 : Int32)) _ h hk
set_option maxRecDepth 100000 in
set_option maxHeartbeats 4000000 in
theorem L_X12_goesDeeper_48 {Γ : fhX} (hΓ : fhOk fhYM 12 cX12_goesDeeper 3 none Γ) (hd : 1 ≤ fhD Γ) (v1 : Int32) (v2 : Int32)  (σ : fhM) (o : (Int32 × fhM) ⊕ ((Int32 × fhM) ⊕ (fhM))) (h : f_X12_goesDeeper_48 v1 v2 σ = some o) (hk : (fhK (fun x => fhW fhYM Γ 48 [(0, .ref 0), (1, .int v1), (2, .int x.1)] [] x.2) (fhK (fun x => fhW fhYM Γ 38 [(0, .ref 0), (1, .int x.1)] [] x.2) (fun o => fhRet Γ none o))) o) : fhW fhYM Γ 48 [(0, .ref 0), (1, .int v1), (2, .int v2)] [] σ := by
  unfold f_X12_goesDeeper_48 at h
  refine fhW.blk fhPM fhLL hΓ [(.iload_n 2, 0), (.aload_n 0, 0), (.getfield 432, 0)] (pc' := 53) (lv' := [(0, .ref 0), (1, .int v1), (2, .int v2)]) (st' := [.int (σ.1 0 52), .int v2]) (σ' := σ) (by decide +kernel) rfl rfl rfl ?_
  refine fhW.i_ge hΓ (tgt := 69) (show fhbk _ _ (.if_icmp .ge (16)) _ = true by decide +kernel) (fun hc => ?_) (fun hc => ?_)
  · rw [if_pos hc] at h
    refine fhW.blk fhPM fhLL hΓ [(.iconst 0, 0), (.istore_n 2, 0)] (pc' := 71) (lv' := [(2, .int (0 : Int32)), (0, .ref 0), (1, .int v1)]) (st' := []) (σ' := σ) (by decide +kernel) rfl rfl rfl ?_
    refine fhW.sub (lv' := [(0, .ref 0), (1, .int v1), (2, .int (0 : Int32))]) [1, 2, 0] rfl ?_
    obtain ⟨z2, hz, e2⟩ := Option.map_eq_some_iff.mp h
    clear h
    subst e2
    have h := hz
    have hk : (fhK (fun x => fhW fhYM Γ 38 [(0, .ref 0), (1, .int x.1)] [] x.2) (fun o => fhRet Γ none o)) z2 := hk
    exact fhlp_ok (W := (fun x => fhW fhYM Γ 71 [(0, .ref 0), (1, .int v1), (2, .int x.1)] [] x.2)) (B := (fhK (fun x => fhW fhYM Γ 38 [(0, .ref 0), (1, .int x.1)] [] x.2) (fun o => fhRet Γ none o))) (fun x o h hk => L_X12_goesDeeper_71 hΓ hd v1 x.1 x.2 o h hk) ((0 : Int32), σ) _ h hk
  · rw [if_neg hc] at h
    obtain ⟨hg5, h⟩ := fhif h
    refine fhW.blk fhPM fhLL hΓ [(.aload_n 0, 0), (.getfield 140, 0), (.iload_n 2, 0), (.iconst 0, 0), (.iastore, 0), (.iinc 2 1, 1)] (pc' := 66) (lv' := [(2, .int (v2 + (1 : Int32))), (0, .ref 0), (1, .int v1)]) (st' := []) (σ' := (fhI σ 42 (fhix v2) (0 : Int32))) (by decide +kernel) rfl rfl hg5 ?_
    refine fhW.goto hΓ (off := (-18)) (tgt := 48) (by decide +kernel) ?_
    refine fhW.sub (lv' := [(0, .ref 0), (1, .int v1), (2, .int (v2 + (1 : Int32)))]) [1, 2, 0] rfl ?_
    have e9 := Option.some.inj h
    subst e9
    exact hk
set_option maxRecDepth 100000 in
set_option maxHeartbeats 4000000 in
theorem L_X12_goesDeeper_38 {Γ : fhX} (hΓ : fhOk fhYM 12 cX12_goesDeeper 3 none Γ) (hd : 1 ≤ fhD Γ) (v1 : Int32)  (σ : fhM) (o : (Int32 × fhM) ⊕ (fhM)) (h : f_X12_goesDeeper_38 v1 σ = some o) (hk : (fhK (fun x => fhW fhYM Γ 38 [(0, .ref 0), (1, .int x.1)] [] x.2) (fun o => fhRet Γ none o)) o) : fhW fhYM Γ 38 [(0, .ref 0), (1, .int v1)] [] σ := by
  unfold f_X12_goesDeeper_38 at h
  refine fhW.blk fhPM fhLL hΓ [(.iload_n 1, 0), (.aload_n 0, 0)] (pc' := 40) (lv' := [(0, .ref 0), (1, .int v1)]) (st' := [.ref 0, .int v1]) (σ' := σ) (by decide +kernel) rfl rfl rfl ?_
  refine fhW.callv hΓ mvX12_guestMany ml_12_423 (t := 0) (ci := 12) (av := []) (rest := [.int v1]) (r := (some (.int (f_X12_guestMany σ)))) (σ' := σ) (T_X12_guestMany (E := fhEn Γ) (d := fhD Γ - 1) (by omega) σ) (by omega) (by decide +kernel) rfl rfl rfl (Nat.le_of_ble_eq_true rfl) rfl ?_
  show fhW fhYM Γ 43 [(0, .ref 0), (1, .int v1)] [.int (f_X12_guestMany σ), .int v1] σ
  refine fhW.i_ge hΓ (tgt := 170) (show fhbk _ _ (.if_icmp .ge (127)) _ = true by decide +kernel) (fun hc => ?_) (fun hc => ?_)
  · rw [if_pos hc] at h
    have e9 := Option.some.inj h
    subst e9
    exact fhW.vret hΓ (by decide +kernel) hk
  · rw [if_neg hc] at h
    refine fhW.blk fhPM fhLL hΓ [(.iconst 0, 0), (.istore_n 2, 0)] (pc' := 48) (lv' := [(2, .int (0 : Int32)), (0, .ref 0), (1, .int v1)]) (st' := []) (σ' := σ) (by decide +kernel) rfl rfl rfl ?_
    refine fhW.sub (lv' := [(0, .ref 0), (1, .int v1), (2, .int (0 : Int32))]) [1, 2, 0] rfl ?_
    exact fhlp_ok (W := (fun x => fhW fhYM Γ 48 [(0, .ref 0), (1, .int v1), (2, .int x.1)] [] x.2)) (B := (fhK (fun x => fhW fhYM Γ 38 [(0, .ref 0), (1, .int x.1)] [] x.2) (fun o => fhRet Γ none o))) (fun x o h hk => L_X12_goesDeeper_48 hΓ hd v1 x.1 x.2 o h hk) ((0 : Int32), σ) _ h hk
set_option maxRecDepth 100000 in
set_option maxHeartbeats 4000000 in
theorem L_X12_goesDeeper_29 {Γ : fhX} (hΓ : fhOk fhYM 12 cX12_goesDeeper 3 none Γ) (hd : 1 ≤ fhD Γ) (v1 : Int32) (s0 : Int32) (s1 : Int32)  (σ : fhM) (o : (Int32 × fhM) ⊕ (fhM)) (h : f_X12_goesDeeper_29 v1 s0 s1 σ = some o) (hk : (fhK (fun x => fhW fhYM Γ 2 [(0, .ref 0), (1, .int x.1)] [] x.2) (fun o => fhRet Γ none o)) o) : fhW fhYM Γ 29 [(0, .ref 0), (1, .int v1)] [.int s0, .int s1, .ref 46] σ := by
  unfold f_X12_goesDeeper_29 at h
  obtain ⟨hg6, h⟩ := fhif h
  refine fhW.blk fhPM fhLL hΓ [(.iastore, 0), (.iinc 1 1, 1)] (pc' := 33) (lv' := [(1, .int (v1 + (1 : Int32))), (0, .ref 0)]) (st' := []) (σ' := (fhI σ 46 (fhix s1) s0)) (by decide +kernel) rfl rfl hg6 ?_
  refine fhW.goto hΓ (off := (-31)) (tgt := 2) (by decide +kernel) ?_
  refine fhW.sub (lv' := [(0, .ref 0), (1, .int (v1 + (1 : Int32)))]) [1, 0] rfl ?_
  have e9 := Option.some.inj h
  subst e9
  exact hk
set_option maxRecDepth 100000 in
set_option maxHeartbeats 4000000 in
theorem L_X12_goesDeeper_2 {Γ : fhX} (hΓ : fhOk fhYM 12 cX12_goesDeeper 3 none Γ) (hd : 1 ≤ fhD Γ) (v1 : Int32)  (σ : fhM) (o : (Int32 × fhM) ⊕ (fhM)) (h : f_X12_goesDeeper_2 v1 σ = some o) (hk : (fhK (fun x => fhW fhYM Γ 2 [(0, .ref 0), (1, .int x.1)] [] x.2) (fun o => fhRet Γ none o)) o) : fhW fhYM Γ 2 [(0, .ref 0), (1, .int v1)] [] σ := by
  unfold f_X12_goesDeeper_2 at h
  refine fhW.blk fhPM fhLL hΓ [(.iload_n 1, 0), (.aload_n 0, 0), (.getfield 432, 0)] (pc' := 7) (lv' := [(0, .ref 0), (1, .int v1)]) (st' := [.int (σ.1 0 52), .int v1]) (σ' := σ) (by decide +kernel) rfl rfl rfl ?_
  refine fhW.i_ge hΓ (tgt := 36) (show fhbk _ _ (.if_icmp .ge (29)) _ = true by decide +kernel) (fun hc => ?_) (fun hc => ?_)
  · rw [if_pos hc] at h
    refine fhW.blk fhPM fhLL hΓ [(.iconst 0, 0), (.istore_n 1, 0)] (pc' := 38) (lv' := [(1, .int (0 : Int32)), (0, .ref 0)]) (st' := []) (σ' := σ) (by decide +kernel) rfl rfl rfl ?_
    refine fhW.sub (lv' := [(0, .ref 0), (1, .int (0 : Int32))]) [1, 0] rfl ?_
    obtain ⟨z3, hz, e3⟩ := Option.map_eq_some_iff.mp h
    clear h
    subst e3
    have h := hz
    have hk : (fun o => fhRet Γ none o) z3 := hk
    exact fhlp_ok (W := (fun x => fhW fhYM Γ 38 [(0, .ref 0), (1, .int x.1)] [] x.2)) (B := (fun o => fhRet Γ none o)) (fun x o h hk => L_X12_goesDeeper_38 hΓ hd x.1 x.2 o h hk) ((0 : Int32), σ) _ h hk
  · rw [if_neg hc] at h
    obtain ⟨hg7, h⟩ := fhif h
    refine fhW.blk fhPM fhLL hΓ [(.aload_n 0, 0), (.getfield 153, 0), (.iload_n 1, 0), (.aload_n 0, 0), (.getfield 162, 0), (.iload_n 1, 0), (.baload, 0)] (pc' := 21) (lv' := [(0, .ref 0), (1, .int v1)]) (st' := [.int (σ.1 49 (fhix v1)), .int v1, .ref 46]) (σ' := σ) (by decide +kernel) rfl rfl hg7 ?_
    refine fhW.z_eq hΓ (tgt := 28) (show fhbk _ _ (.ifCond .eq (7)) _ = true by decide +kernel) (fun hc => ?_) (fun hc => ?_)
    · simp only [if_pos hc] at h
      refine fhW.blk fhPM fhLL hΓ [(.iconst 0, 0)] (pc' := 29) (lv' := [(0, .ref 0), (1, .int v1)]) (st' := [.int (0 : Int32), .int v1, .ref 46]) (σ' := σ) (by decide +kernel) rfl rfl rfl ?_
      refine fhW.sub (lv' := [(0, .ref 0), (1, .int v1)]) [0, 1] rfl ?_
      exact L_X12_goesDeeper_29 hΓ hd v1 (0 : Int32) v1 σ _ h hk
    · simp only [if_neg hc] at h
      refine fhW.blk fhPM fhLL hΓ [(.iconst 1, 1)] (pc' := 25) (lv' := [(0, .ref 0), (1, .int v1)]) (st' := [.int (1 : Int32), .int v1, .ref 46]) (σ' := σ) (by decide +kernel) rfl rfl rfl ?_
      refine fhW.goto hΓ (off := 4) (tgt := 29) (by decide +kernel) ?_
      refine fhW.sub (lv' := [(0, .ref 0), (1, .int v1)]) [0, 1] rfl ?_
      exact L_X12_goesDeeper_29 hΓ hd v1 (1 : Int32) v1 σ _ h hk
set_option maxRecDepth 100000 in
set_option maxHeartbeats 4000000 in
theorem L_X12_goesDeeper_E {Γ : fhX} (hΓ : fhOk fhYM 12 cX12_goesDeeper 3 none Γ) (hd : 1 ≤ fhD Γ)   (σ : fhM) (o : fhM) (h : f_X12_goesDeeper σ = some o) (hk : (fun o => fhRet Γ none o) o) : fhW fhYM Γ 0 [(0, .ref 0)] [] σ := by
  unfold f_X12_goesDeeper at h
  refine fhW.blk fhPM fhLL hΓ [(.iconst 0, 0), (.istore_n 1, 0)] (pc' := 2) (lv' := [(1, .int (0 : Int32)), (0, .ref 0)]) (st' := []) (σ' := σ) (by decide +kernel) rfl rfl rfl ?_
  refine fhW.sub (lv' := [(0, .ref 0), (1, .int (0 : Int32))]) [1, 0] rfl ?_
  exact fhlp_ok (W := (fun x => fhW fhYM Γ 2 [(0, .ref 0), (1, .int x.1)] [] x.2)) (B := (fun o => fhRet Γ none o)) (fun x o h hk => L_X12_goesDeeper_2 hΓ hd x.1 x.2 o h hk) ((0 : Int32), σ) _ h hk
set_option maxRecDepth 100000 in
theorem T_X12_goesDeeper {E : fhE} {d : Nat} (hd : 1 ≤ d)   (σ : fhM) {o : fhM} (h : f_X12_goesDeeper σ = some o) : fhC fhYM E d miX12_goesDeeper [.ref 0] σ none o := by
  refine fhC.of (y := yX12_goesDeeper) (cc := cX12_goesDeeper) (nL := 3) (ret := none) 12 rfl (by decide +kernel) (Nat.le_of_ble_eq_true rfl) ?_
  intro Γ hΓ hR hD hEn
  subst hD; subst hEn
  exact L_X12_goesDeeper_E hΓ hd   σ _ h hR
set_option maxRecDepth 100000 in
set_option maxHeartbeats 4000000 in
theorem L_X12_deep_67 {Γ : fhX} (hΓ : fhOk fhYM 12 cX12_deep 2 (some .int) Γ) (hd : 3 ≤ fhD Γ) (v1 : Int32)  (σ : fhM) (o : (Int32 × fhM) ⊕ (Int32 × fhM)) (h : f_X12_deep_67 v1 σ = some o) (hk : (fhK (fun x => fhW fhYM Γ 67 [(0, .ref 0), (1, .int x.1)] [] x.2) (fun o => fhRet Γ (some (.int o.1)) o.2)) o) : fhW fhYM Γ 67 [(0, .ref 0), (1, .int v1)] [] σ := by
  unfold f_X12_deep_67 at h
  obtain ⟨hg1, h⟩ := fhif h
  refine fhW.blk fhPM fhLL hΓ [(.aload_n 0, 0), (.getfield 162, 0), (.aload_n 0, 0), (.getfield 147, 0), (.iconst 1, 1), (.iaload, 0), (.baload, 0)] (pc' := 78) (lv' := [(0, .ref 0), (1, .int v1)]) (st' := [.int (σ.1 49 (fhix (σ.1 44 1)))]) (σ' := σ) (by decide +kernel) rfl rfl hg1 ?_
  refine fhW.z_eq hΓ (tgt := 97) (show fhbk _ _ (.ifCond .eq (19)) _ = true by decide +kernel) (fun hc => ?_) (fun hc => ?_)
  · rw [if_pos hc] at h
    refine fhW.blk fhPM fhLL hΓ [(.iload_n 1, 0)] (pc' := 98) (lv' := [(0, .ref 0), (1, .int v1)]) (st' := [.int v1]) (σ' := σ) (by decide +kernel) rfl rfl rfl ?_
    have e9 := Option.some.inj h
    subst e9
    exact fhW.iret hΓ (by decide +kernel) hk
  · rw [if_neg hc] at h
    refine fhW.blk fhPM fhLL hΓ [(.iload_n 1, 0), (.bipush 9, 9)] (pc' := 84) (lv' := [(0, .ref 0), (1, .int v1)]) (st' := [.int (9 : Int32), .int v1]) (σ' := σ) (by decide +kernel) rfl rfl rfl ?_
    refine fhW.i_ge hΓ (tgt := 97) (show fhbk _ _ (.if_icmp .ge (13)) _ = true by decide +kernel) (fun hc => ?_) (fun hc => ?_)
    · rw [if_pos hc] at h
      refine fhW.blk fhPM fhLL hΓ [(.iload_n 1, 0)] (pc' := 98) (lv' := [(0, .ref 0), (1, .int v1)]) (st' := [.int v1]) (σ' := σ) (by decide +kernel) rfl rfl rfl ?_
      have e9 := Option.some.inj h
      subst e9
      exact fhW.iret hΓ (by decide +kernel) hk
    · rw [if_neg hc] at h
      refine fhW.blk fhPM fhLL hΓ [(.iinc 1 1, 1), (.aload_n 0, 0)] (pc' := 91) (lv' := [(1, .int (v1 + (1 : Int32))), (0, .ref 0)]) (st' := [.ref 0]) (σ' := σ) (by decide +kernel) rfl rfl rfl ?_
      obtain ⟨q3, hb1, h⟩ := Option.bind_eq_some_iff.mp h
      refine fhW.callv hΓ mvX12_goesDeeper ml_12_525 (t := 0) (ci := 12) (av := []) (rest := []) (r := none) (σ' := q3) (T_X12_goesDeeper (E := fhEn Γ) (d := fhD Γ - 1) (by omega) σ hb1) (by omega) (by decide +kernel) rfl rfl rfl (Nat.le_of_ble_eq_true rfl) rfl ?_
      show fhW fhYM Γ 94 [(1, .int (v1 + (1 : Int32))), (0, .ref 0)] [] q3
      refine fhW.goto hΓ (off := (-27)) (tgt := 67) (by decide +kernel) ?_
      refine fhW.sub (lv' := [(0, .ref 0), (1, .int (v1 + (1 : Int32)))]) [1, 0] rfl ?_
      have e9 := Option.some.inj h
      subst e9
      exact hk
set_option maxRecDepth 100000 in
set_option maxHeartbeats 4000000 in
theorem L_X12_deep_58 {Γ : fhX} (hΓ : fhOk fhYM 12 cX12_deep 2 (some .int) Γ) (hd : 3 ≤ fhD Γ) (v1 : Int32) (s0 : Int32) (s1 : Int32)  (σ : fhM) (o : (Int32 × fhM) ⊕ (Int32 × fhM)) (h : f_X12_deep_58 v1 s0 s1 σ = some o) (hk : (fhK (fun x => fhW fhYM Γ 15 [(0, .ref 0), (1, .int x.1)] [] x.2) (fun o => fhRet Γ (some (.int o.1)) o.2)) o) : fhW fhYM Γ 58 [(0, .ref 0), (1, .int v1)] [.int s0, .int s1, .ref 49] σ := by
  unfold f_X12_deep_58 at h
  obtain ⟨hg2, h⟩ := fhif h
  refine fhW.blk fhPM fhLL hΓ [(.bastore, 0), (.iinc 1 1, 1)] (pc' := 62) (lv' := [(1, .int (v1 + (1 : Int32))), (0, .ref 0)]) (st' := []) (σ' := (fhI σ 49 (fhix s1) (s0 &&& 1))) (by decide +kernel) rfl rfl hg2 ?_
  refine fhW.goto hΓ (off := (-47)) (tgt := 15) (by decide +kernel) ?_
  refine fhW.sub (lv' := [(0, .ref 0), (1, .int (v1 + (1 : Int32)))]) [1, 0] rfl ?_
  have e9 := Option.some.inj h
  subst e9
  exact hk
set_option maxRecDepth 100000 in
set_option maxHeartbeats 4000000 in
theorem L_X12_deep_57 {Γ : fhX} (hΓ : fhOk fhYM 12 cX12_deep 2 (some .int) Γ) (hd : 3 ≤ fhD Γ) (v1 : Int32) (s0 : Int32)  (σ : fhM) (o : (Int32 × fhM) ⊕ (Int32 × fhM)) (h : f_X12_deep_57 v1 s0 σ = some o) (hk : (fhK (fun x => fhW fhYM Γ 15 [(0, .ref 0), (1, .int x.1)] [] x.2) (fun o => fhRet Γ (some (.int o.1)) o.2)) o) : fhW fhYM Γ 57 [(0, .ref 0), (1, .int v1)] [.int s0, .ref 49] σ := by
  unfold f_X12_deep_57 at h
  refine fhW.blk fhPM fhLL hΓ [(.iconst 0, 0)] (pc' := 58) (lv' := [(0, .ref 0), (1, .int v1)]) (st' := [.int (0 : Int32), .int s0, .ref 49]) (σ' := σ) (by decide +kernel) rfl rfl rfl ?_
  refine fhW.sub (lv' := [(0, .ref 0), (1, .int v1)]) [0, 1] rfl ?_
  exact L_X12_deep_58 hΓ hd v1 (0 : Int32) s0 σ _ h hk
set_option maxRecDepth 100000 in
set_option maxHeartbeats 4000000 in
theorem L_X12_deep_15 {Γ : fhX} (hΓ : fhOk fhYM 12 cX12_deep 2 (some .int) Γ) (hd : 3 ≤ fhD Γ) (v1 : Int32)  (σ : fhM) (o : (Int32 × fhM) ⊕ (Int32 × fhM)) (h : f_X12_deep_15 v1 σ = some o) (hk : (fhK (fun x => fhW fhYM Γ 15 [(0, .ref 0), (1, .int x.1)] [] x.2) (fun o => fhRet Γ (some (.int o.1)) o.2)) o) : fhW fhYM Γ 15 [(0, .ref 0), (1, .int v1)] [] σ := by
  unfold f_X12_deep_15 at h
  refine fhW.blk fhPM fhLL hΓ [(.iload_n 1, 0), (.aload_n 0, 0), (.getfield 432, 0)] (pc' := 20) (lv' := [(0, .ref 0), (1, .int v1)]) (st' := [.int (σ.1 0 52), .int v1]) (σ' := σ) (by decide +kernel) rfl rfl rfl ?_
  refine fhW.i_ge hΓ (tgt := 65) (show fhbk _ _ (.if_icmp .ge (45)) _ = true by decide +kernel) (fun hc => ?_) (fun hc => ?_)
  · rw [if_pos hc] at h
    refine fhW.blk fhPM fhLL hΓ [(.iconst 0, 0), (.istore_n 1, 0)] (pc' := 67) (lv' := [(1, .int (0 : Int32)), (0, .ref 0)]) (st' := []) (σ' := σ) (by decide +kernel) rfl rfl rfl ?_
    refine fhW.sub (lv' := [(0, .ref 0), (1, .int (0 : Int32))]) [1, 0] rfl ?_
    obtain ⟨z1, hz, e1⟩ := Option.map_eq_some_iff.mp h
    clear h
    subst e1
    have h := hz
    have hk : (fun o => fhRet Γ (some (.int o.1)) o.2) z1 := hk
    exact fhlp_ok (W := (fun x => fhW fhYM Γ 67 [(0, .ref 0), (1, .int x.1)] [] x.2)) (B := (fun o => fhRet Γ (some (.int o.1)) o.2)) (fun x o h hk => L_X12_deep_67 hΓ hd x.1 x.2 o h hk) ((0 : Int32), σ) _ h hk
  · rw [if_neg hc] at h
    refine fhW.blk fhPM fhLL hΓ [(.aload_n 0, 0), (.getfield 162, 0), (.iload_n 1, 0), (.aload_n 0, 0), (.iload_n 1, 0)] (pc' := 30) (lv' := [(0, .ref 0), (1, .int v1)]) (st' := [.int v1, .ref 0, .int v1, .ref 49]) (σ' := σ) (by decide +kernel) rfl rfl rfl ?_
    obtain ⟨q2, hb2, h⟩ := Option.bind_eq_some_iff.mp h
    refine fhW.callv hΓ mvX12_isLeft ml_12_478 (t := 0) (ci := 12) (av := [.int v1]) (rest := [.int v1, .ref 49]) (r := (some (.int (fhb q2)))) (σ' := σ) (T_X12_isLeft (E := fhEn Γ) (d := fhD Γ - 1) (by omega) v1 σ hb2) (by omega) (by decide +kernel) rfl rfl rfl (Nat.le_of_ble_eq_true rfl) rfl ?_
    show fhW fhYM Γ 33 [(0, .ref 0), (1, .int v1)] [.int (fhb q2), .int v1, .ref 49] σ
    refine fhW.b_eq hΓ (tgt := 57) (show fhbk _ _ (.ifCond .eq (24)) _ = true by decide +kernel) (fun hc => ?_) (fun hc => ?_)
    · rw [if_neg hc] at h
      refine fhW.sub (lv' := [(0, .ref 0), (1, .int v1)]) [0, 1] rfl ?_
      exact L_X12_deep_57 hΓ hd v1 v1 σ _ h hk
    · rw [if_pos hc] at h
      obtain ⟨hg3, h⟩ := fhif h
      refine fhW.blk fhPM fhLL hΓ [(.aload_n 0, 0), (.getfield 153, 0), (.iload_n 1, 0), (.iaload, 0), (.iconst 1, 1), (.aload_n 0, 0)] (pc' := 44) (lv' := [(0, .ref 0), (1, .int v1)]) (st' := [.ref 0, .int (1 : Int32), .int (σ.1 46 (fhix v1)), .int v1, .ref 49]) (σ' := σ) (by decide +kernel) rfl rfl hg3 ?_
      refine fhW.callv hΓ mvX12_guestMany ml_12_423 (t := 0) (ci := 12) (av := []) (rest := [.int (1 : Int32), .int (σ.1 46 (fhix v1)), .int v1, .ref 49]) (r := (some (.int (f_X12_guestMany σ)))) (σ' := σ) (T_X12_guestMany (E := fhEn Γ) (d := fhD Γ - 1) (by omega) σ) (by omega) (by decide +kernel) rfl rfl rfl (Nat.le_of_ble_eq_true rfl) rfl ?_
      show fhW fhYM Γ 47 [(0, .ref 0), (1, .int v1)] [.int (f_X12_guestMany σ), .int (1 : Int32), .int (σ.1 46 (fhix v1)), .int v1, .ref 49] σ
      refine fhW.blk fhPM fhLL hΓ [(.ishl, 0), (.iconst 1, 1), (.isub, 0)] (pc' := 50) (lv' := [(0, .ref 0), (1, .int v1)]) (st' := [.int (((1 : Int32) <<< ((f_X12_guestMany σ) &&& 31)) - (1 : Int32)), .int (σ.1 46 (fhix v1)), .int v1, .ref 49]) (σ' := σ) (by decide +kernel) rfl rfl rfl ?_
      refine fhW.i_ne hΓ (tgt := 57) (show fhbk _ _ (.if_icmp .ne (7)) _ = true by decide +kernel) (fun hc => ?_) (fun hc => ?_)
      · rw [if_neg hc] at h
        refine fhW.sub (lv' := [(0, .ref 0), (1, .int v1)]) [0, 1] rfl ?_
        exact L_X12_deep_57 hΓ hd v1 v1 σ _ h hk
      · rw [if_pos hc] at h
        refine fhW.blk fhPM fhLL hΓ [(.iconst 1, 1)] (pc' := 54) (lv' := [(0, .ref 0), (1, .int v1)]) (st' := [.int (1 : Int32), .int v1, .ref 49]) (σ' := σ) (by decide +kernel) rfl rfl rfl ?_
        refine fhW.goto hΓ (off := 4) (tgt := 58) (by decide +kernel) ?_
        refine fhW.sub (lv' := [(0, .ref 0), (1, .int v1)]) [0, 1] rfl ?_
        exact L_X12_deep_58 hΓ hd v1 (1 : Int32) v1 σ _ h hk
set_option maxRecDepth 100000 in
set_option maxHeartbeats 4000000 in
theorem L_X12_deep_E {Γ : fhX} (hΓ : fhOk fhYM 12 cX12_deep 2 (some .int) Γ) (hd : 3 ≤ fhD Γ)   (σ : fhM) (o : Int32 × fhM) (h : f_X12_deep σ = some o) (hk : (fun o => fhRet Γ (some (.int o.1)) o.2) o) : fhW fhYM Γ 0 [(0, .ref 0)] [] σ := by
  unfold f_X12_deep at h
  refine fhW.blk fhPM fhLL hΓ [(.aload_n 0, 0), (.getfield 441, 0)] (pc' := 4) (lv' := [(0, .ref 0)]) (st' := [.int (σ.1 0 47)]) (σ' := σ) (by decide +kernel) rfl rfl rfl ?_
  refine fhW.z_ne hΓ (tgt := 9) (show fhbk _ _ (.ifCond .ne (5)) _ = true by decide +kernel) (fun hc => ?_) (fun hc => ?_)
  · rw [if_neg hc] at h
    refine fhW.blk fhPM fhLL hΓ [(.aload_n 0, 0)] (pc' := 10) (lv' := [(0, .ref 0)]) (st' := [.ref 0]) (σ' := σ) (by decide +kernel) rfl rfl rfl ?_
    obtain ⟨q1, hb3, h⟩ := Option.bind_eq_some_iff.mp h
    refine fhW.callv hΓ mvX12_laysKnowing ml_12_490 (t := 0) (ci := 12) (av := []) (rest := []) (r := none) (σ' := q1) (T_X12_laysKnowing (E := fhEn Γ) (d := fhD Γ - 1) (by omega) σ hb3) (by omega) (by decide +kernel) rfl rfl rfl (Nat.le_of_ble_eq_true rfl) rfl ?_
    show fhW fhYM Γ 13 [(0, .ref 0)] [] q1
    refine fhW.blk fhPM fhLL hΓ [(.iconst 0, 0), (.istore_n 1, 0)] (pc' := 15) (lv' := [(1, .int (0 : Int32)), (0, .ref 0)]) (st' := []) (σ' := q1) (by decide +kernel) rfl rfl rfl ?_
    refine fhW.sub (lv' := [(0, .ref 0), (1, .int (0 : Int32))]) [1, 0] rfl ?_
    exact fhlp_ok (W := (fun x => fhW fhYM Γ 15 [(0, .ref 0), (1, .int x.1)] [] x.2)) (B := (fun o => fhRet Γ (some (.int o.1)) o.2)) (fun x o h hk => L_X12_deep_15 hΓ hd x.1 x.2 o h hk) ((0 : Int32), q1) _ h hk
  · rw [if_pos hc] at h
    refine fhW.blk fhPM fhLL hΓ [(.iconst (-1), -1)] (pc' := 8) (lv' := [(0, .ref 0)]) (st' := [.int (-1 : Int32)]) (σ' := σ) (by decide +kernel) rfl rfl rfl ?_
    have e9 := Option.some.inj h
    subst e9
    exact fhW.iret hΓ (by decide +kernel) hk
set_option maxRecDepth 100000 in
theorem T_X12_deep {E : fhE} {d : Nat} (hd : 3 ≤ d)   (σ : fhM) {o : Int32 × fhM} (h : f_X12_deep σ = some o) : fhC fhYM E d miX12_deep [.ref 0] σ (some (.int o.1)) o.2 := by
  refine fhC.of (y := yX12_deep) (cc := cX12_deep) (nL := 2) (ret := (some .int)) 12 rfl (by decide +kernel) (Nat.le_of_ble_eq_true rfl) ?_
  intro Γ hΓ hR hD hEn
  subst hD; subst hEn
  exact L_X12_deep_E hΓ hd   σ _ h hR
set_option maxRecDepth 100000 in
set_option maxHeartbeats 4000000 in
theorem L_X12_later_29 {Γ : fhX} (hΓ : fhOk fhYM 12 cX12_later 4 (some .int) Γ) (hd : 5 ≤ fhD Γ) (v1 : Int32) (v2 : Int32) (v3 : Int32)  (σ : fhM) (o : (Int32 × fhM) ⊕ (Int32 × fhM)) (h : f_X12_later_29 v1 v2 v3 σ = some o) (hk : (fhK (fun x => fhW fhYM Γ 29 [(0, .ref 0), (1, .int v1), (2, .int v2), (3, .int x.1)] [] x.2) (fun o => fhRet Γ (some (.int o.1)) o.2)) o) : fhW fhYM Γ 29 [(0, .ref 0), (1, .int v1), (2, .int v2), (3, .int v3)] [] σ := by
  unfold f_X12_later_29 at h
  refine fhW.blk fhPM fhLL hΓ [(.iload_n 3, 0), (.iload_n 2, 0)] (pc' := 31) (lv' := [(0, .ref 0), (1, .int v1), (2, .int v2), (3, .int v3)]) (st' := [.int v2, .int v3]) (σ' := σ) (by decide +kernel) rfl rfl rfl ?_
  refine fhW.i_ge hΓ (tgt := 47) (show fhbk _ _ (.if_icmp .ge (16)) _ = true by decide +kernel) (fun hc => ?_) (fun hc => ?_)
  · rw [if_pos hc] at h
    refine fhW.blk fhPM fhLL hΓ [(.aload_n 0, 0), (.iload_n 1, 0)] (pc' := 49) (lv' := [(0, .ref 0), (1, .int v1), (2, .int v2), (3, .int v3)]) (st' := [.int v1, .ref 0]) (σ' := σ) (by decide +kernel) rfl rfl rfl ?_
    obtain ⟨q2, hb1, h⟩ := Option.bind_eq_some_iff.mp h
    refine fhW.callv hΓ mvX12_doesKnow ml_12_484 (t := 0) (ci := 12) (av := [.int v1]) (rest := []) (r := (some (.int (fhb q2.1)))) (σ' := q2.2) (T_X12_doesKnow (E := fhEn Γ) (d := fhD Γ - 1) (by omega) v1 σ hb1) (by omega) (by decide +kernel) rfl rfl rfl (Nat.le_of_ble_eq_true rfl) rfl ?_
    show fhW fhYM Γ 52 [(0, .ref 0), (1, .int v1), (2, .int v2), (3, .int v3)] [.int (fhb q2.1)] q2.2
    refine fhW.blk fhPM fhLL hΓ [(.istore_n 3, 0), (.aload_n 0, 0)] (pc' := 54) (lv' := [(3, .int (fhb q2.1)), (0, .ref 0), (1, .int v1), (2, .int v2)]) (st' := [.ref 0]) (σ' := q2.2) (by decide +kernel) rfl rfl rfl ?_
    obtain ⟨q3, hb2, h⟩ := Option.bind_eq_some_iff.mp h
    refine fhW.callv hΓ mvX12_takesBack ml_12_536 (t := 0) (ci := 12) (av := []) (rest := []) (r := none) (σ' := q3) (T_X12_takesBack (E := fhEn Γ) (d := fhD Γ - 1) (by omega) q2.2 hb2) (by omega) (by decide +kernel) rfl rfl rfl (Nat.le_of_ble_eq_true rfl) rfl ?_
    show fhW fhYM Γ 57 [(3, .int (fhb q2.1)), (0, .ref 0), (1, .int v1), (2, .int v2)] [] q3
    refine fhW.blk fhPM fhLL hΓ [(.iload_n 3, 0)] (pc' := 58) (lv' := [(3, .int (fhb q2.1)), (0, .ref 0), (1, .int v1), (2, .int v2)]) (st' := [.int (fhb q2.1)]) (σ' := q3) (by decide +kernel) rfl rfl rfl ?_
    refine fhW.b_eq hΓ (tgt := 65) (show fhbk _ _ (.ifCond .eq (7)) _ = true by decide +kernel) (fun hc => ?_) (fun hc => ?_)
    · rw [if_neg hc] at h
      refine fhW.blk fhPM fhLL hΓ [(.iconst 0, 0)] (pc' := 66) (lv' := [(3, .int (fhb q2.1)), (0, .ref 0), (1, .int v1), (2, .int v2)]) (st' := [.int (0 : Int32)]) (σ' := q3) (by decide +kernel) rfl rfl rfl ?_
      have e9 := Option.some.inj h
      subst e9
      exact fhW.iret hΓ (by decide +kernel) hk
    · rw [if_pos hc] at h
      refine fhW.blk fhPM fhLL hΓ [(.iconst 1, 1)] (pc' := 62) (lv' := [(3, .int (fhb q2.1)), (0, .ref 0), (1, .int v1), (2, .int v2)]) (st' := [.int (1 : Int32)]) (σ' := q3) (by decide +kernel) rfl rfl rfl ?_
      refine fhW.goto hΓ (off := 4) (tgt := 66) (by decide +kernel) ?_
      have e9 := Option.some.inj h
      subst e9
      exact fhW.iret hΓ (by decide +kernel) hk
  · rw [if_neg hc] at h
    refine fhW.blk fhPM fhLL hΓ [(.aload_n 0, 0), (.bipush 31, 31)] (pc' := 37) (lv' := [(0, .ref 0), (1, .int v1), (2, .int v2), (3, .int v3)]) (st' := [.int (31 : Int32), .ref 0]) (σ' := σ) (by decide +kernel) rfl rfl rfl ?_
    obtain ⟨q4, hb3, h⟩ := Option.bind_eq_some_iff.mp h
    refine fhW.callv hΓ mvX12_roundGoes ml_12_533 (t := 0) (ci := 12) (av := [.int (31 : Int32)]) (rest := []) (r := (some (.int q4.1))) (σ' := q4.2) (T_X12_roundGoes (E := fhEn Γ) (d := fhD Γ - 1) (by omega) (31 : Int32) σ hb3) (by omega) (by decide +kernel) rfl rfl rfl (Nat.le_of_ble_eq_true rfl) rfl ?_
    show fhW fhYM Γ 40 [(0, .ref 0), (1, .int v1), (2, .int v2), (3, .int v3)] [.int q4.1] q4.2
    refine fhW.blk fhPM fhLL hΓ [(.pop, 0), (.iinc 3 1, 1)] (pc' := 44) (lv' := [(3, .int (v3 + (1 : Int32))), (0, .ref 0), (1, .int v1), (2, .int v2)]) (st' := []) (σ' := q4.2) (by decide +kernel) rfl rfl rfl ?_
    refine fhW.goto hΓ (off := (-15)) (tgt := 29) (by decide +kernel) ?_
    refine fhW.sub (lv' := [(0, .ref 0), (1, .int v1), (2, .int v2), (3, .int (v3 + (1 : Int32)))]) [1, 2, 3, 0] rfl ?_
    have e9 := Option.some.inj h
    subst e9
    exact hk
set_option maxRecDepth 100000 in
set_option maxHeartbeats 4000000 in
theorem L_X12_later_E {Γ : fhX} (hΓ : fhOk fhYM 12 cX12_later 4 (some .int) Γ) (hd : 5 ≤ fhD Γ) (v1 : Int32) (v2 : Int32)  (σ : fhM) (o : Int32 × fhM) (h : f_X12_later v1 v2 σ = some o) (hk : (fun o => fhRet Γ (some (.int o.1)) o.2) o) : fhW fhYM Γ 0 [(0, .ref 0), (1, .int v1), (2, .int v2)] [] σ := by
  unfold f_X12_later at h
  refine fhW.blk fhPM fhLL hΓ [(.aload_n 0, 0), (.iload_n 1, 0), (.i2l, 0)] (pc' := 3) (lv' := [(0, .ref 0), (1, .int v1), (2, .int v2)]) (st' := [.long (Int32.toInt64 v1), .ref 0]) (σ' := σ) (by decide +kernel) rfl rfl rfl ?_
  refine fhW.callv hΓ mvX12_isGuest ml_12_505 (t := 0) (ci := 12) (av := [.long (Int32.toInt64 v1)]) (rest := []) (r := (some (.int (fhb (f_X12_isGuest (Int32.toInt64 v1) σ))))) (σ' := σ) (T_X12_isGuest (E := fhEn Γ) (d := fhD Γ - 1) (by omega) (Int32.toInt64 v1) σ) (by omega) (by decide +kernel) rfl rfl rfl (Nat.le_of_ble_eq_true rfl) rfl ?_
  show fhW fhYM Γ 6 [(0, .ref 0), (1, .int v1), (2, .int v2)] [.int (fhb (f_X12_isGuest (Int32.toInt64 v1) σ))] σ
  refine fhW.b_eq hΓ (tgt := 21) (show fhbk _ _ (.ifCond .eq (15)) _ = true by decide +kernel) (fun hc => ?_) (fun hc => ?_)
  · rw [if_neg hc] at h
    refine fhW.blk fhPM fhLL hΓ [(.iconst (-1), -1)] (pc' := 22) (lv' := [(0, .ref 0), (1, .int v1), (2, .int v2)]) (st' := [.int (-1 : Int32)]) (σ' := σ) (by decide +kernel) rfl rfl rfl ?_
    have e9 := Option.some.inj h
    subst e9
    exact fhW.iret hΓ (by decide +kernel) hk
  · rw [if_pos hc] at h
    refine fhW.blk fhPM fhLL hΓ [(.iload_n 2, 0), (.i2l, 0), (.lconst 0, 0), (.ldc2_w 528, 0)] (pc' := 15) (lv' := [(0, .ref 0), (1, .int v1), (2, .int v2)]) (st' := [.long (20 : Int64), .long (0 : Int64), .long (Int32.toInt64 v2)]) (σ' := σ) (by decide +kernel) rfl rfl rfl ?_
    refine fhW.calls hΓ msX12_isIn ml_12_305 (av := [.long (Int32.toInt64 v2), .long (0 : Int64), .long (20 : Int64)]) (rest := []) (r := (some (.int (fhb (f_X12_isIn (Int32.toInt64 v2) (0 : Int64) (20 : Int64) σ))))) (σ' := σ) (T_X12_isIn (E := fhEn Γ) (d := fhD Γ - 1) (by omega) (Int32.toInt64 v2) (0 : Int64) (20 : Int64) σ) (by omega) (by decide +kernel) rfl (Nat.le_of_ble_eq_true rfl) rfl ?_
    show fhW fhYM Γ 18 [(0, .ref 0), (1, .int v1), (2, .int v2)] [.int (fhb (f_X12_isIn (Int32.toInt64 v2) (0 : Int64) (20 : Int64) σ))] σ
    refine fhW.b_ne hΓ (tgt := 23) (show fhbk _ _ (.ifCond .ne (5)) _ = true by decide +kernel) (fun hc => ?_) (fun hc => ?_)
    · rw [if_pos hc] at h
      refine fhW.blk fhPM fhLL hΓ [(.aload_n 0, 0)] (pc' := 24) (lv' := [(0, .ref 0), (1, .int v1), (2, .int v2)]) (st' := [.ref 0]) (σ' := σ) (by decide +kernel) rfl rfl rfl ?_
      obtain ⟨q1, hb4, h⟩ := Option.bind_eq_some_iff.mp h
      refine fhW.callv hΓ mvX12_putsAside ml_12_530 (t := 0) (ci := 12) (av := []) (rest := []) (r := none) (σ' := q1) (T_X12_putsAside (E := fhEn Γ) (d := fhD Γ - 1) (by omega) σ hb4) (by omega) (by decide +kernel) rfl rfl rfl (Nat.le_of_ble_eq_true rfl) rfl ?_
      show fhW fhYM Γ 27 [(0, .ref 0), (1, .int v1), (2, .int v2)] [] q1
      refine fhW.blk fhPM fhLL hΓ [(.iconst 0, 0), (.istore_n 3, 0)] (pc' := 29) (lv' := [(3, .int (0 : Int32)), (0, .ref 0), (1, .int v1), (2, .int v2)]) (st' := []) (σ' := q1) (by decide +kernel) rfl rfl rfl ?_
      refine fhW.sub (lv' := [(0, .ref 0), (1, .int v1), (2, .int v2), (3, .int (0 : Int32))]) [1, 2, 3, 0] rfl ?_
      exact fhlp_ok (W := (fun x => fhW fhYM Γ 29 [(0, .ref 0), (1, .int v1), (2, .int v2), (3, .int x.1)] [] x.2)) (B := (fun o => fhRet Γ (some (.int o.1)) o.2)) (fun x o h hk => L_X12_later_29 hΓ hd v1 v2 x.1 x.2 o h hk) ((0 : Int32), q1) _ h hk
    · rw [if_neg hc] at h
      refine fhW.blk fhPM fhLL hΓ [(.iconst (-1), -1)] (pc' := 22) (lv' := [(0, .ref 0), (1, .int v1), (2, .int v2)]) (st' := [.int (-1 : Int32)]) (σ' := σ) (by decide +kernel) rfl rfl rfl ?_
      have e9 := Option.some.inj h
      subst e9
      exact fhW.iret hΓ (by decide +kernel) hk
set_option maxRecDepth 100000 in
theorem T_X12_later {E : fhE} {d : Nat} (hd : 5 ≤ d) (v1 : Int32) (v2 : Int32)  (σ : fhM) {o : Int32 × fhM} (h : f_X12_later v1 v2 σ = some o) : fhC fhYM E d miX12_later [.ref 0, .int v1, .int v2] σ (some (.int o.1)) o.2 := by
  refine fhC.of (y := yX12_later) (cc := cX12_later) (nL := 4) (ret := (some .int)) 12 rfl (by decide +kernel) (Nat.le_of_ble_eq_true rfl) ?_
  intro Γ hΓ hR hD hEn
  subst hD; subst hEn
  exact L_X12_later_E hΓ hd v1 v2  σ _ h hR
set_option maxRecDepth 100000 in
set_option maxHeartbeats 4000000 in
theorem L_X12_learns_52 {Γ : fhX} (hΓ : fhOk fhYM 12 cX12_learns 4 (some .int) Γ) (hd : 5 ≤ fhD Γ) (v2 : Int32) (v3 : Int32)  (σ : fhM) (o : Int32 × fhM) (h : f_X12_learns_52 v2 v3 σ = some o) (hk : (fun o => fhRet Γ (some (.int o.1)) o.2) o) : fhW fhYM Γ 52 [(0, .ref 0), (2, .int v2), (3, .int v3)] [] σ := by
  unfold f_X12_learns_52 at h
  refine fhW.blk fhPM fhLL hΓ [(.aload_n 0, 0)] (pc' := 53) (lv' := [(0, .ref 0), (2, .int v2), (3, .int v3)]) (st' := [.ref 0]) (σ' := σ) (by decide +kernel) rfl rfl rfl ?_
  obtain ⟨q5, hb1, h⟩ := Option.bind_eq_some_iff.mp h
  refine fhW.callv hΓ mvX12_takesBack ml_12_536 (t := 0) (ci := 12) (av := []) (rest := []) (r := none) (σ' := q5) (T_X12_takesBack (E := fhEn Γ) (d := fhD Γ - 1) (by omega) σ hb1) (by omega) (by decide +kernel) rfl rfl rfl (Nat.le_of_ble_eq_true rfl) rfl ?_
  show fhW fhYM Γ 56 [(0, .ref 0), (2, .int v2), (3, .int v3)] [] q5
  refine fhW.blk fhPM fhLL hΓ [(.iload_n 3, 0)] (pc' := 57) (lv' := [(0, .ref 0), (2, .int v2), (3, .int v3)]) (st' := [.int v3]) (σ' := q5) (by decide +kernel) rfl rfl rfl ?_
  refine fhW.z_eq hΓ (tgt := 64) (show fhbk _ _ (.ifCond .eq (7)) _ = true by decide +kernel) (fun hc => ?_) (fun hc => ?_)
  · rw [if_pos hc] at h
    refine fhW.blk fhPM fhLL hΓ [(.iconst (-1), -1)] (pc' := 65) (lv' := [(0, .ref 0), (2, .int v2), (3, .int v3)]) (st' := [.int (-1 : Int32)]) (σ' := q5) (by decide +kernel) rfl rfl rfl ?_
    have e9 := Option.some.inj h
    subst e9
    exact fhW.iret hΓ (by decide +kernel) hk
  · rw [if_neg hc] at h
    refine fhW.blk fhPM fhLL hΓ [(.iload_n 2, 0)] (pc' := 61) (lv' := [(0, .ref 0), (2, .int v2), (3, .int v3)]) (st' := [.int v2]) (σ' := q5) (by decide +kernel) rfl rfl rfl ?_
    refine fhW.goto hΓ (off := 4) (tgt := 65) (by decide +kernel) ?_
    have e9 := Option.some.inj h
    subst e9
    exact fhW.iret hΓ (by decide +kernel) hk
set_option maxRecDepth 100000 in
set_option maxHeartbeats 4000000 in
theorem L_X12_learns_23 {Γ : fhX} (hΓ : fhOk fhYM 12 cX12_learns 4 (some .int) Γ) (hd : 5 ≤ fhD Γ) (v1 : Int32) (v2 : Int32) (v3 : Int32)  (σ : fhM) (o : (Int32 × Int32 × fhM) ⊕ (Int32 × fhM)) (h : f_X12_learns_23 v1 v2 v3 σ = some o) (hk : (fhK (fun x => fhW fhYM Γ 23 [(0, .ref 0), (1, .int v1), (2, .int x.1), (3, .int x.2.1)] [] x.2.2) (fun o => fhRet Γ (some (.int o.1)) o.2)) o) : fhW fhYM Γ 23 [(0, .ref 0), (1, .int v1), (2, .int v2), (3, .int v3)] [] σ := by
  unfold f_X12_learns_23 at h
  refine fhW.blk fhPM fhLL hΓ [(.iload_n 3, 0)] (pc' := 24) (lv' := [(0, .ref 0), (1, .int v1), (2, .int v2), (3, .int v3)]) (st' := [.int v3]) (σ' := σ) (by decide +kernel) rfl rfl rfl ?_
  refine fhW.z_ne hΓ (tgt := 52) (show fhbk _ _ (.ifCond .ne (28)) _ = true by decide +kernel) (fun hc => ?_) (fun hc => ?_)
  · rw [if_neg hc] at h
    refine fhW.sub (lv' := [(0, .ref 0), (2, .int v2), (3, .int v3)]) [0, 2, 3] rfl ?_
    obtain ⟨z1, hz, e1⟩ := Option.map_eq_some_iff.mp h
    clear h
    subst e1
    have h := hz
    have hk : (fun o => fhRet Γ (some (.int o.1)) o.2) z1 := hk
    exact L_X12_learns_52 hΓ hd v2 v3 σ _ h hk
  · rw [if_pos hc] at h
    refine fhW.blk fhPM fhLL hΓ [(.iload_n 2, 0), (.bipush 20, 20)] (pc' := 30) (lv' := [(0, .ref 0), (1, .int v1), (2, .int v2), (3, .int v3)]) (st' := [.int (20 : Int32), .int v2]) (σ' := σ) (by decide +kernel) rfl rfl rfl ?_
    refine fhW.i_ge hΓ (tgt := 52) (show fhbk _ _ (.if_icmp .ge (22)) _ = true by decide +kernel) (fun hc => ?_) (fun hc => ?_)
    · rw [if_pos hc] at h
      refine fhW.sub (lv' := [(0, .ref 0), (2, .int v2), (3, .int v3)]) [0, 2, 3] rfl ?_
      obtain ⟨z2, hz, e2⟩ := Option.map_eq_some_iff.mp h
      clear h
      subst e2
      have h := hz
      have hk : (fun o => fhRet Γ (some (.int o.1)) o.2) z2 := hk
      exact L_X12_learns_52 hΓ hd v2 v3 σ _ h hk
    · rw [if_neg hc] at h
      refine fhW.blk fhPM fhLL hΓ [(.aload_n 0, 0), (.bipush 31, 31)] (pc' := 36) (lv' := [(0, .ref 0), (1, .int v1), (2, .int v2), (3, .int v3)]) (st' := [.int (31 : Int32), .ref 0]) (σ' := σ) (by decide +kernel) rfl rfl rfl ?_
      obtain ⟨q3, hb2, h⟩ := Option.bind_eq_some_iff.mp h
      refine fhW.callv hΓ mvX12_roundGoes ml_12_533 (t := 0) (ci := 12) (av := [.int (31 : Int32)]) (rest := []) (r := (some (.int q3.1))) (σ' := q3.2) (T_X12_roundGoes (E := fhEn Γ) (d := fhD Γ - 1) (by omega) (31 : Int32) σ hb2) (by omega) (by decide +kernel) rfl rfl rfl (Nat.le_of_ble_eq_true rfl) rfl ?_
      show fhW fhYM Γ 39 [(0, .ref 0), (1, .int v1), (2, .int v2), (3, .int v3)] [.int q3.1] q3.2
      refine fhW.blk fhPM fhLL hΓ [(.pop, 0), (.iinc 2 1, 1), (.aload_n 0, 0), (.iload_n 1, 0)] (pc' := 45) (lv' := [(2, .int (v2 + (1 : Int32))), (0, .ref 0), (1, .int v1), (3, .int v3)]) (st' := [.int v1, .ref 0]) (σ' := q3.2) (by decide +kernel) rfl rfl rfl ?_
      obtain ⟨q4, hb3, h⟩ := Option.bind_eq_some_iff.mp h
      refine fhW.callv hΓ mvX12_doesKnow ml_12_484 (t := 0) (ci := 12) (av := [.int v1]) (rest := []) (r := (some (.int (fhb q4.1)))) (σ' := q4.2) (T_X12_doesKnow (E := fhEn Γ) (d := fhD Γ - 1) (by omega) v1 q3.2 hb3) (by omega) (by decide +kernel) rfl rfl rfl (Nat.le_of_ble_eq_true rfl) rfl ?_
      show fhW fhYM Γ 48 [(2, .int (v2 + (1 : Int32))), (0, .ref 0), (1, .int v1), (3, .int v3)] [.int (fhb q4.1)] q4.2
      refine fhW.blk fhPM fhLL hΓ [(.istore_n 3, 0)] (pc' := 49) (lv' := [(3, .int (fhb q4.1)), (2, .int (v2 + (1 : Int32))), (0, .ref 0), (1, .int v1)]) (st' := []) (σ' := q4.2) (by decide +kernel) rfl rfl rfl ?_
      refine fhW.goto hΓ (off := (-26)) (tgt := 23) (by decide +kernel) ?_
      refine fhW.sub (lv' := [(0, .ref 0), (1, .int v1), (2, .int (v2 + (1 : Int32))), (3, .int (fhb q4.1))]) [2, 3, 1, 0] rfl ?_
      have e9 := Option.some.inj h
      subst e9
      exact hk
set_option maxRecDepth 100000 in
set_option maxHeartbeats 4000000 in
theorem L_X12_learns_E {Γ : fhX} (hΓ : fhOk fhYM 12 cX12_learns 4 (some .int) Γ) (hd : 5 ≤ fhD Γ) (v1 : Int32)  (σ : fhM) (o : Int32 × fhM) (h : f_X12_learns v1 σ = some o) (hk : (fun o => fhRet Γ (some (.int o.1)) o.2) o) : fhW fhYM Γ 0 [(0, .ref 0), (1, .int v1)] [] σ := by
  unfold f_X12_learns at h
  refine fhW.blk fhPM fhLL hΓ [(.aload_n 0, 0), (.iload_n 1, 0), (.i2l, 0)] (pc' := 3) (lv' := [(0, .ref 0), (1, .int v1)]) (st' := [.long (Int32.toInt64 v1), .ref 0]) (σ' := σ) (by decide +kernel) rfl rfl rfl ?_
  refine fhW.callv hΓ mvX12_isGuest ml_12_505 (t := 0) (ci := 12) (av := [.long (Int32.toInt64 v1)]) (rest := []) (r := (some (.int (fhb (f_X12_isGuest (Int32.toInt64 v1) σ))))) (σ' := σ) (T_X12_isGuest (E := fhEn Γ) (d := fhD Γ - 1) (by omega) (Int32.toInt64 v1) σ) (by omega) (by decide +kernel) rfl rfl rfl (Nat.le_of_ble_eq_true rfl) rfl ?_
  show fhW fhYM Γ 6 [(0, .ref 0), (1, .int v1)] [.int (fhb (f_X12_isGuest (Int32.toInt64 v1) σ))] σ
  refine fhW.b_ne hΓ (tgt := 11) (show fhbk _ _ (.ifCond .ne (5)) _ = true by decide +kernel) (fun hc => ?_) (fun hc => ?_)
  · rw [if_pos hc] at h
    refine fhW.blk fhPM fhLL hΓ [(.iconst 0, 0), (.istore_n 2, 0), (.aload_n 0, 0)] (pc' := 14) (lv' := [(2, .int (0 : Int32)), (0, .ref 0), (1, .int v1)]) (st' := [.ref 0]) (σ' := σ) (by decide +kernel) rfl rfl rfl ?_
    obtain ⟨q1, hb4, h⟩ := Option.bind_eq_some_iff.mp h
    refine fhW.callv hΓ mvX12_putsAside ml_12_530 (t := 0) (ci := 12) (av := []) (rest := []) (r := none) (σ' := q1) (T_X12_putsAside (E := fhEn Γ) (d := fhD Γ - 1) (by omega) σ hb4) (by omega) (by decide +kernel) rfl rfl rfl (Nat.le_of_ble_eq_true rfl) rfl ?_
    show fhW fhYM Γ 17 [(2, .int (0 : Int32)), (0, .ref 0), (1, .int v1)] [] q1
    refine fhW.blk fhPM fhLL hΓ [(.aload_n 0, 0), (.iload_n 1, 0)] (pc' := 19) (lv' := [(2, .int (0 : Int32)), (0, .ref 0), (1, .int v1)]) (st' := [.int v1, .ref 0]) (σ' := q1) (by decide +kernel) rfl rfl rfl ?_
    obtain ⟨q2, hb5, h⟩ := Option.bind_eq_some_iff.mp h
    refine fhW.callv hΓ mvX12_doesKnow ml_12_484 (t := 0) (ci := 12) (av := [.int v1]) (rest := []) (r := (some (.int (fhb q2.1)))) (σ' := q2.2) (T_X12_doesKnow (E := fhEn Γ) (d := fhD Γ - 1) (by omega) v1 q1 hb5) (by omega) (by decide +kernel) rfl rfl rfl (Nat.le_of_ble_eq_true rfl) rfl ?_
    show fhW fhYM Γ 22 [(2, .int (0 : Int32)), (0, .ref 0), (1, .int v1)] [.int (fhb q2.1)] q2.2
    refine fhW.blk fhPM fhLL hΓ [(.istore_n 3, 0)] (pc' := 23) (lv' := [(3, .int (fhb q2.1)), (2, .int (0 : Int32)), (0, .ref 0), (1, .int v1)]) (st' := []) (σ' := q2.2) (by decide +kernel) rfl rfl rfl ?_
    refine fhW.sub (lv' := [(0, .ref 0), (1, .int v1), (2, .int (0 : Int32)), (3, .int (fhb q2.1))]) [2, 3, 1, 0] rfl ?_
    exact fhlp_ok (W := (fun x => fhW fhYM Γ 23 [(0, .ref 0), (1, .int v1), (2, .int x.1), (3, .int x.2.1)] [] x.2.2)) (B := (fun o => fhRet Γ (some (.int o.1)) o.2)) (fun x o h hk => L_X12_learns_23 hΓ hd v1 x.1 x.2.1 x.2.2 o h hk) ((0 : Int32), (fhb q2.1), q2.2) _ h hk
  · rw [if_neg hc] at h
    refine fhW.blk fhPM fhLL hΓ [(.iconst (-1), -1)] (pc' := 10) (lv' := [(0, .ref 0), (1, .int v1)]) (st' := [.int (-1 : Int32)]) (σ' := σ) (by decide +kernel) rfl rfl rfl ?_
    have e9 := Option.some.inj h
    subst e9
    exact fhW.iret hΓ (by decide +kernel) hk
set_option maxRecDepth 100000 in
theorem T_X12_learns {E : fhE} {d : Nat} (hd : 5 ≤ d) (v1 : Int32)  (σ : fhM) {o : Int32 × fhM} (h : f_X12_learns v1 σ = some o) : fhC fhYM E d miX12_learns [.ref 0, .int v1] σ (some (.int o.1)) o.2 := by
  refine fhC.of (y := yX12_learns) (cc := cX12_learns) (nL := 4) (ret := (some .int)) 12 rfl (by decide +kernel) (Nat.le_of_ble_eq_true rfl) ?_
  intro Γ hΓ hR hD hEn
  subst hD; subst hEn
  exact L_X12_learns_E hΓ hd v1  σ _ h hR
set_option maxRecDepth 100000 in
set_option maxHeartbeats 4000000 in
theorem L_X12_rests_56 {Γ : fhX} (hΓ : fhOk fhYM 12 cX12_rests 4 (some .int) Γ) (hd : 5 ≤ fhD Γ) (v1 : Int32)  (σ : fhM) (o : Int32 × fhM) (h : f_X12_rests_56 v1 σ = some o) (hk : (fun o => fhRet Γ (some (.int o.1)) o.2) o) : fhW fhYM Γ 56 [(0, .ref 0), (1, .int v1)] [] σ := by
  unfold f_X12_rests_56 at h
  refine fhW.blk fhPM fhLL hΓ [(.aload_n 0, 0)] (pc' := 57) (lv' := [(0, .ref 0), (1, .int v1)]) (st' := [.ref 0]) (σ' := σ) (by decide +kernel) rfl rfl rfl ?_
  obtain ⟨q5, hb1, h⟩ := Option.bind_eq_some_iff.mp h
  refine fhW.callv hΓ mvX12_takesBack ml_12_536 (t := 0) (ci := 12) (av := []) (rest := []) (r := none) (σ' := q5) (T_X12_takesBack (E := fhEn Γ) (d := fhD Γ - 1) (by omega) σ hb1) (by omega) (by decide +kernel) rfl rfl rfl (Nat.le_of_ble_eq_true rfl) rfl ?_
  show fhW fhYM Γ 60 [(0, .ref 0), (1, .int v1)] [] q5
  refine fhW.blk fhPM fhLL hΓ [(.iload_n 1, 0)] (pc' := 61) (lv' := [(0, .ref 0), (1, .int v1)]) (st' := [.int v1]) (σ' := q5) (by decide +kernel) rfl rfl rfl ?_
  have e9 := Option.some.inj h
  subst e9
  exact fhW.iret hΓ (by decide +kernel) hk
set_option maxRecDepth 100000 in
set_option maxHeartbeats 4000000 in
theorem L_X12_rests_50 {Γ : fhX} (hΓ : fhOk fhYM 12 cX12_rests 4 (some .int) Γ) (hd : 5 ≤ fhD Γ) (v1 : Int32) (v2 : Int32)  (σ : fhM) (o : (Int32 × Int32 × fhM) ⊕ (Int32 × fhM)) (h : f_X12_rests_50 v1 v2 σ = some o) (hk : (fhK (fun x => fhW fhYM Γ 17 [(0, .ref 0), (1, .int x.1), (2, .int x.2.1)] [] x.2.2) (fun o => fhRet Γ (some (.int o.1)) o.2)) o) : fhW fhYM Γ 50 [(0, .ref 0), (1, .int v1), (2, .int v2)] [] σ := by
  unfold f_X12_rests_50 at h
  refine fhW.blk fhPM fhLL hΓ [(.iinc 2 1, 1)] (pc' := 53) (lv' := [(2, .int (v2 + (1 : Int32))), (0, .ref 0), (1, .int v1)]) (st' := []) (σ' := σ) (by decide +kernel) rfl rfl rfl ?_
  refine fhW.goto hΓ (off := (-36)) (tgt := 17) (by decide +kernel) ?_
  refine fhW.sub (lv' := [(0, .ref 0), (1, .int v1), (2, .int (v2 + (1 : Int32)))]) [1, 2, 0] rfl ?_
  have e9 := Option.some.inj h
  subst e9
  exact hk
set_option maxRecDepth 100000 in
set_option maxHeartbeats 4000000 in
theorem L_X12_rests_17 {Γ : fhX} (hΓ : fhOk fhYM 12 cX12_rests 4 (some .int) Γ) (hd : 5 ≤ fhD Γ) (v1 : Int32) (v2 : Int32)  (σ : fhM) (o : (Int32 × Int32 × fhM) ⊕ (Int32 × fhM)) (h : f_X12_rests_17 v1 v2 σ = some o) (hk : (fhK (fun x => fhW fhYM Γ 17 [(0, .ref 0), (1, .int x.1), (2, .int x.2.1)] [] x.2.2) (fun o => fhRet Γ (some (.int o.1)) o.2)) o) : fhW fhYM Γ 17 [(0, .ref 0), (1, .int v1), (2, .int v2)] [] σ := by
  unfold f_X12_rests_17 at h
  refine fhW.blk fhPM fhLL hΓ [(.iload_n 2, 0), (.bipush 20, 20)] (pc' := 20) (lv' := [(0, .ref 0), (1, .int v1), (2, .int v2)]) (st' := [.int (20 : Int32), .int v2]) (σ' := σ) (by decide +kernel) rfl rfl rfl ?_
  refine fhW.i_gt hΓ (tgt := 56) (show fhbk _ _ (.if_icmp .gt (36)) _ = true by decide +kernel) (fun hc => ?_) (fun hc => ?_)
  · rw [if_pos hc] at h
    refine fhW.sub (lv' := [(0, .ref 0), (1, .int v1)]) [0, 1] rfl ?_
    obtain ⟨z1, hz, e1⟩ := Option.map_eq_some_iff.mp h
    clear h
    subst e1
    have h := hz
    have hk : (fun o => fhRet Γ (some (.int o.1)) o.2) z1 := hk
    exact L_X12_rests_56 hΓ hd v1 σ _ h hk
  · rw [if_neg hc] at h
    refine fhW.blk fhPM fhLL hΓ [(.iload_n 1, 0), (.iconst (-1), -1)] (pc' := 25) (lv' := [(0, .ref 0), (1, .int v1), (2, .int v2)]) (st' := [.int (-1 : Int32), .int v1]) (σ' := σ) (by decide +kernel) rfl rfl rfl ?_
    refine fhW.i_ne hΓ (tgt := 56) (show fhbk _ _ (.if_icmp .ne (31)) _ = true by decide +kernel) (fun hc => ?_) (fun hc => ?_)
    · rw [if_neg hc] at h
      refine fhW.sub (lv' := [(0, .ref 0), (1, .int v1)]) [0, 1] rfl ?_
      obtain ⟨z2, hz, e2⟩ := Option.map_eq_some_iff.mp h
      clear h
      subst e2
      have h := hz
      have hk : (fun o => fhRet Γ (some (.int o.1)) o.2) z2 := hk
      exact L_X12_rests_56 hΓ hd v1 σ _ h hk
    · rw [if_pos hc] at h
      refine fhW.blk fhPM fhLL hΓ [(.aload_n 0, 0)] (pc' := 29) (lv' := [(0, .ref 0), (1, .int v1), (2, .int v2)]) (st' := [.ref 0]) (σ' := σ) (by decide +kernel) rfl rfl rfl ?_
      obtain ⟨q2, hb2, h⟩ := Option.bind_eq_some_iff.mp h
      refine fhW.callv hΓ mvX12_leftMany ml_12_487 (t := 0) (ci := 12) (av := []) (rest := []) (r := (some (.int q2))) (σ' := σ) (T_X12_leftMany (E := fhEn Γ) (d := fhD Γ - 1) (by omega) σ hb2) (by omega) (by decide +kernel) rfl rfl rfl (Nat.le_of_ble_eq_true rfl) rfl ?_
      show fhW fhYM Γ 32 [(0, .ref 0), (1, .int v1), (2, .int v2)] [.int q2] σ
      refine fhW.blk fhPM fhLL hΓ [(.istore_n 3, 0), (.aload_n 0, 0), (.bipush 31, 31)] (pc' := 36) (lv' := [(3, .int q2), (0, .ref 0), (1, .int v1), (2, .int v2)]) (st' := [.int (31 : Int32), .ref 0]) (σ' := σ) (by decide +kernel) rfl rfl rfl ?_
      obtain ⟨q3, hb3, h⟩ := Option.bind_eq_some_iff.mp h
      refine fhW.callv hΓ mvX12_roundGoes ml_12_533 (t := 0) (ci := 12) (av := [.int (31 : Int32)]) (rest := []) (r := (some (.int q3.1))) (σ' := q3.2) (T_X12_roundGoes (E := fhEn Γ) (d := fhD Γ - 1) (by omega) (31 : Int32) σ hb3) (by omega) (by decide +kernel) rfl rfl rfl (Nat.le_of_ble_eq_true rfl) rfl ?_
      show fhW fhYM Γ 39 [(3, .int q2), (0, .ref 0), (1, .int v1), (2, .int v2)] [.int q3.1] q3.2
      refine fhW.blk fhPM fhLL hΓ [(.pop, 0), (.aload_n 0, 0)] (pc' := 41) (lv' := [(3, .int q2), (0, .ref 0), (1, .int v1), (2, .int v2)]) (st' := [.ref 0]) (σ' := q3.2) (by decide +kernel) rfl rfl rfl ?_
      obtain ⟨q4, hb4, h⟩ := Option.bind_eq_some_iff.mp h
      refine fhW.callv hΓ mvX12_leftMany ml_12_487 (t := 0) (ci := 12) (av := []) (rest := []) (r := (some (.int q4))) (σ' := q3.2) (T_X12_leftMany (E := fhEn Γ) (d := fhD Γ - 1) (by omega) q3.2 hb4) (by omega) (by decide +kernel) rfl rfl rfl (Nat.le_of_ble_eq_true rfl) rfl ?_
      show fhW fhYM Γ 44 [(3, .int q2), (0, .ref 0), (1, .int v1), (2, .int v2)] [.int q4] q3.2
      refine fhW.blk fhPM fhLL hΓ [(.iload_n 3, 0)] (pc' := 45) (lv' := [(3, .int q2), (0, .ref 0), (1, .int v1), (2, .int v2)]) (st' := [.int q2, .int q4]) (σ' := q3.2) (by decide +kernel) rfl rfl rfl ?_
      refine fhW.i_ne hΓ (tgt := 50) (show fhbk _ _ (.if_icmp .ne (5)) _ = true by decide +kernel) (fun hc => ?_) (fun hc => ?_)
      · simp only [if_neg hc] at h
        refine fhW.sub (lv' := [(0, .ref 0), (1, .int v1), (2, .int v2)]) [1, 2, 3] rfl ?_
        exact L_X12_rests_50 hΓ hd v1 v2 q3.2 _ h hk
      · simp only [if_pos hc] at h
        refine fhW.blk fhPM fhLL hΓ [(.iload_n 2, 0), (.istore_n 1, 0)] (pc' := 50) (lv' := [(1, .int v2), (3, .int q2), (0, .ref 0), (2, .int v2)]) (st' := []) (σ' := q3.2) (by decide +kernel) rfl rfl rfl ?_
        refine fhW.sub (lv' := [(0, .ref 0), (1, .int v2), (2, .int v2)]) [2, 0, 3] rfl ?_
        exact L_X12_rests_50 hΓ hd v2 v2 q3.2 _ h hk
set_option maxRecDepth 100000 in
set_option maxHeartbeats 4000000 in
theorem L_X12_rests_E {Γ : fhX} (hΓ : fhOk fhYM 12 cX12_rests 4 (some .int) Γ) (hd : 5 ≤ fhD Γ)   (σ : fhM) (o : Int32 × fhM) (h : f_X12_rests σ = some o) (hk : (fun o => fhRet Γ (some (.int o.1)) o.2) o) : fhW fhYM Γ 0 [(0, .ref 0)] [] σ := by
  unfold f_X12_rests at h
  refine fhW.blk fhPM fhLL hΓ [(.aload_n 0, 0), (.getfield 441, 0)] (pc' := 4) (lv' := [(0, .ref 0)]) (st' := [.int (σ.1 0 47)]) (σ' := σ) (by decide +kernel) rfl rfl rfl ?_
  refine fhW.z_ne hΓ (tgt := 9) (show fhbk _ _ (.ifCond .ne (5)) _ = true by decide +kernel) (fun hc => ?_) (fun hc => ?_)
  · rw [if_neg hc] at h
    refine fhW.blk fhPM fhLL hΓ [(.iconst (-1), -1), (.istore_n 1, 0), (.aload_n 0, 0)] (pc' := 12) (lv' := [(1, .int (-1 : Int32)), (0, .ref 0)]) (st' := [.ref 0]) (σ' := σ) (by decide +kernel) rfl rfl rfl ?_
    obtain ⟨q1, hb5, h⟩ := Option.bind_eq_some_iff.mp h
    refine fhW.callv hΓ mvX12_putsAside ml_12_530 (t := 0) (ci := 12) (av := []) (rest := []) (r := none) (σ' := q1) (T_X12_putsAside (E := fhEn Γ) (d := fhD Γ - 1) (by omega) σ hb5) (by omega) (by decide +kernel) rfl rfl rfl (Nat.le_of_ble_eq_true rfl) rfl ?_
    show fhW fhYM Γ 15 [(1, .int (-1 : Int32)), (0, .ref 0)] [] q1
    refine fhW.blk fhPM fhLL hΓ [(.iconst 0, 0), (.istore_n 2, 0)] (pc' := 17) (lv' := [(2, .int (0 : Int32)), (1, .int (-1 : Int32)), (0, .ref 0)]) (st' := []) (σ' := q1) (by decide +kernel) rfl rfl rfl ?_
    refine fhW.sub (lv' := [(0, .ref 0), (1, .int (-1 : Int32)), (2, .int (0 : Int32))]) [2, 1, 0] rfl ?_
    exact fhlp_ok (W := (fun x => fhW fhYM Γ 17 [(0, .ref 0), (1, .int x.1), (2, .int x.2.1)] [] x.2.2)) (B := (fun o => fhRet Γ (some (.int o.1)) o.2)) (fun x o h hk => L_X12_rests_17 hΓ hd x.1 x.2.1 x.2.2 o h hk) ((-1 : Int32), (0 : Int32), q1) _ h hk
  · rw [if_pos hc] at h
    refine fhW.blk fhPM fhLL hΓ [(.iconst (-1), -1)] (pc' := 8) (lv' := [(0, .ref 0)]) (st' := [.int (-1 : Int32)]) (σ' := σ) (by decide +kernel) rfl rfl rfl ?_
    have e9 := Option.some.inj h
    subst e9
    exact fhW.iret hΓ (by decide +kernel) hk
set_option maxRecDepth 100000 in
theorem T_X12_rests {E : fhE} {d : Nat} (hd : 5 ≤ d)   (σ : fhM) {o : Int32 × fhM} (h : f_X12_rests σ = some o) : fhC fhYM E d miX12_rests [.ref 0] σ (some (.int o.1)) o.2 := by
  refine fhC.of (y := yX12_rests) (cc := cX12_rests) (nL := 4) (ret := (some .int)) 12 rfl (by decide +kernel) (Nat.le_of_ble_eq_true rfl) ?_
  intro Γ hΓ hR hD hEn
  subst hD; subst hEn
  exact L_X12_rests_E hΓ hd   σ _ h hR
set_option maxRecDepth 100000 in
set_option maxHeartbeats 4000000 in
theorem L_X12_knowsBy_92 {Γ : fhX} (hΓ : fhOk fhYM 12 cX12_knowsBy 5 (some .boolean) Γ) (hd : 2 ≤ fhD Γ) (v1 : Int32) (v2 : Int32) (v3 : Int32) (v4 : Int32)  (σ : fhM) (o : (Int32 × Int32) ⊕ (Bool)) (h : f_X12_knowsBy_92 v1 v2 v3 v4 σ = some o) (hk : (fhK (fun x => fhW fhYM Γ 5 [(0, .ref 0), (1, .int v1), (2, .int v2), (3, .int x.1), (4, .int x.2)] [] σ) (fun o => fhRet Γ (some (.int (fhb o))) σ)) o) : fhW fhYM Γ 92 [(0, .ref 0), (1, .int v1), (2, .int v2), (3, .int v3), (4, .int v4)] [] σ := by
  unfold f_X12_knowsBy_92 at h
  refine fhW.blk fhPM fhLL hΓ [(.iinc 4 1, 1)] (pc' := 95) (lv' := [(4, .int (v4 + (1 : Int32))), (0, .ref 0), (1, .int v1), (2, .int v2), (3, .int v3)]) (st' := []) (σ' := σ) (by decide +kernel) rfl rfl rfl ?_
  refine fhW.goto hΓ (off := (-90)) (tgt := 5) (by decide +kernel) ?_
  refine fhW.sub (lv' := [(0, .ref 0), (1, .int v1), (2, .int v2), (3, .int v3), (4, .int (v4 + (1 : Int32)))]) [1, 2, 3, 4, 0] rfl ?_
  have e9 := Option.some.inj h
  subst e9
  exact hk
set_option maxRecDepth 100000 in
set_option maxHeartbeats 4000000 in
theorem L_X12_knowsBy_5 {Γ : fhX} (hΓ : fhOk fhYM 12 cX12_knowsBy 5 (some .boolean) Γ) (hd : 2 ≤ fhD Γ) (v1 : Int32) (v2 : Int32) (v3 : Int32) (v4 : Int32)  (σ : fhM) (o : (Int32 × Int32) ⊕ (Bool)) (h : f_X12_knowsBy_5 v1 v2 v3 v4 σ = some o) (hk : (fhK (fun x => fhW fhYM Γ 5 [(0, .ref 0), (1, .int v1), (2, .int v2), (3, .int x.1), (4, .int x.2)] [] σ) (fun o => fhRet Γ (some (.int (fhb o))) σ)) o) : fhW fhYM Γ 5 [(0, .ref 0), (1, .int v1), (2, .int v2), (3, .int v3), (4, .int v4)] [] σ := by
  unfold f_X12_knowsBy_5 at h
  refine fhW.blk fhPM fhLL hΓ [(.iload 4, 0), (.aload_n 0, 0), (.getfield 432, 0)] (pc' := 11) (lv' := [(0, .ref 0), (1, .int v1), (2, .int v2), (3, .int v3), (4, .int v4)]) (st' := [.int (σ.1 0 52), .int v4]) (σ' := σ) (by decide +kernel) rfl rfl rfl ?_
  refine fhW.i_ge hΓ (tgt := 98) (show fhbk _ _ (.if_icmp .ge (87)) _ = true by decide +kernel) (fun hc => ?_) (fun hc => ?_)
  · rw [if_pos hc] at h
    refine fhW.blk fhPM fhLL hΓ [(.iload_n 3, 0)] (pc' := 99) (lv' := [(0, .ref 0), (1, .int v1), (2, .int v2), (3, .int v3), (4, .int v4)]) (st' := [.int v3]) (σ' := σ) (by decide +kernel) rfl rfl rfl ?_
    refine fhW.calls hΓ msX12_isOne ml_12_460 (av := [.int v3]) (rest := []) (r := (some (.int (fhb (f_X12_isOne v3 σ))))) (σ' := σ) (T_X12_isOne (E := fhEn Γ) (d := fhD Γ - 1) (by omega) v3 σ) (by omega) (by decide +kernel) rfl (Nat.le_of_ble_eq_true rfl) rfl ?_
    show fhW fhYM Γ 102 [(0, .ref 0), (1, .int v1), (2, .int v2), (3, .int v3), (4, .int v4)] [.int (fhb (f_X12_isOne v3 σ))] σ
    have e9 := Option.some.inj h
    subst e9
    exact fhW.zret (v := (f_X12_isOne v3 σ)) hΓ (by decide +kernel) hk
  · rw [if_neg hc] at h
    refine fhW.blk fhPM fhLL hΓ [(.aload_n 0, 0), (.iload 4, 0)] (pc' := 17) (lv' := [(0, .ref 0), (1, .int v1), (2, .int v2), (3, .int v3), (4, .int v4)]) (st' := [.int v4, .ref 0]) (σ' := σ) (by decide +kernel) rfl rfl rfl ?_
    obtain ⟨q1, hb1, h⟩ := Option.bind_eq_some_iff.mp h
    refine fhW.callv hΓ mvX12_isLeft ml_12_478 (t := 0) (ci := 12) (av := [.int v4]) (rest := []) (r := (some (.int (fhb q1)))) (σ' := σ) (T_X12_isLeft (E := fhEn Γ) (d := fhD Γ - 1) (by omega) v4 σ hb1) (by omega) (by decide +kernel) rfl rfl rfl (Nat.le_of_ble_eq_true rfl) rfl ?_
    show fhW fhYM Γ 20 [(0, .ref 0), (1, .int v1), (2, .int v2), (3, .int v3), (4, .int v4)] [.int (fhb q1)] σ
    refine fhW.b_eq hΓ (tgt := 92) (show fhbk _ _ (.ifCond .eq (72)) _ = true by decide +kernel) (fun hc => ?_) (fun hc => ?_)
    · rw [if_neg hc] at h
      refine fhW.sub (lv' := [(0, .ref 0), (1, .int v1), (2, .int v2), (3, .int v3), (4, .int v4)]) [0, 1, 2, 3, 4] rfl ?_
      exact L_X12_knowsBy_92 hΓ hd v1 v2 v3 v4 σ _ h hk
    · rw [if_pos hc] at h
      obtain ⟨hg1, h⟩ := fhif h
      refine fhW.blk fhPM fhLL hΓ [(.aload_n 0, 0), (.getfield 131, 0), (.sipush 1024, 1024), (.iload_n 2, 0), (.imul, 0), (.iload 4, 0), (.iadd, 0), (.iaload, 0), (.aload_n 0, 0), (.getfield 131, 0), (.sipush 1024, 1024), (.iload_n 2, 0), (.imul, 0), (.aload_n 0, 0), (.getfield 147, 0), (.iconst 1, 1), (.iaload, 0), (.iadd, 0), (.iaload, 0)] (pc' := 53) (lv' := [(0, .ref 0), (1, .int v1), (2, .int v2), (3, .int v3), (4, .int v4)]) (st' := [.int (σ.1 39 (fhix (((1024 : Int32) * v2) + (σ.1 44 1)))), .int (σ.1 39 (fhix (((1024 : Int32) * v2) + v4)))]) (σ' := σ) (by decide +kernel) rfl rfl hg1 ?_
      refine fhW.i_ne hΓ (tgt := 92) (show fhbk _ _ (.if_icmp .ne (39)) _ = true by decide +kernel) (fun hc => ?_) (fun hc => ?_)
      · rw [if_neg hc] at h
        refine fhW.sub (lv' := [(0, .ref 0), (1, .int v1), (2, .int v2), (3, .int v3), (4, .int v4)]) [0, 1, 2, 3, 4] rfl ?_
        exact L_X12_knowsBy_92 hΓ hd v1 v2 v3 v4 σ _ h hk
      · rw [if_pos hc] at h
        obtain ⟨hg2, h⟩ := fhif h
        refine fhW.blk fhPM fhLL hΓ [(.aload_n 0, 0), (.getfield 128, 0), (.iload 4, 0), (.iaload, 0), (.aload_n 0, 0), (.getfield 128, 0), (.aload_n 0, 0), (.getfield 147, 0), (.iconst 1, 1), (.iaload, 0), (.iaload, 0), (.ixor, 0), (.iload_n 1, 0), (.iand, 0)] (pc' := 77) (lv' := [(0, .ref 0), (1, .int v1), (2, .int v2), (3, .int v3), (4, .int v4)]) (st' := [.int (((σ.1 38 (fhix v4)) ^^^ (σ.1 38 (fhix (σ.1 44 1)))) &&& v1)]) (σ' := σ) (by decide +kernel) rfl rfl hg2 ?_
        refine fhW.z_ne hΓ (tgt := 92) (show fhbk _ _ (.ifCond .ne (15)) _ = true by decide +kernel) (fun hc => ?_) (fun hc => ?_)
        · rw [if_neg hc] at h
          refine fhW.sub (lv' := [(0, .ref 0), (1, .int v1), (2, .int v2), (3, .int v3), (4, .int v4)]) [0, 1, 2, 3, 4] rfl ?_
          exact L_X12_knowsBy_92 hΓ hd v1 v2 v3 v4 σ _ h hk
        · rw [if_pos hc] at h
          refine fhW.blk fhPM fhLL hΓ [(.iload_n 3, 0), (.iconst 1, 1), (.aload_n 0, 0), (.iload 4, 0), (.iload_n 2, 0)] (pc' := 86) (lv' := [(0, .ref 0), (1, .int v1), (2, .int v2), (3, .int v3), (4, .int v4)]) (st' := [.int v2, .int v4, .ref 0, .int (1 : Int32), .int v3]) (σ' := σ) (by decide +kernel) rfl rfl rfl ?_
          obtain ⟨q2, hb2, h⟩ := Option.bind_eq_some_iff.mp h
          refine fhW.callv hΓ mvX12_markOf ml_12_429 (t := 0) (ci := 12) (av := [.int v4, .int v2]) (rest := [.int (1 : Int32), .int v3]) (r := (some (.int q2))) (σ' := σ) (T_X12_markOf (E := fhEn Γ) (d := fhD Γ - 1) (by omega) v4 v2 σ hb2) (by omega) (by decide +kernel) rfl rfl rfl (Nat.le_of_ble_eq_true rfl) rfl ?_
          show fhW fhYM Γ 89 [(0, .ref 0), (1, .int v1), (2, .int v2), (3, .int v3), (4, .int v4)] [.int q2, .int (1 : Int32), .int v3] σ
          refine fhW.blk fhPM fhLL hΓ [(.ishl, 0), (.ior, 0), (.istore_n 3, 0)] (pc' := 92) (lv' := [(3, .int (v3 ||| ((1 : Int32) <<< (q2 &&& 31)))), (0, .ref 0), (1, .int v1), (2, .int v2), (4, .int v4)]) (st' := []) (σ' := σ) (by decide +kernel) rfl rfl rfl ?_
          refine fhW.sub (lv' := [(0, .ref 0), (1, .int v1), (2, .int v2), (3, .int (v3 ||| ((1 : Int32) <<< (q2 &&& 31)))), (4, .int v4)]) [1, 2, 3, 0, 4] rfl ?_
          exact L_X12_knowsBy_92 hΓ hd v1 v2 (v3 ||| ((1 : Int32) <<< (q2 &&& 31))) v4 σ _ h hk
set_option maxRecDepth 100000 in
set_option maxHeartbeats 4000000 in
theorem L_X12_knowsBy_E {Γ : fhX} (hΓ : fhOk fhYM 12 cX12_knowsBy 5 (some .boolean) Γ) (hd : 2 ≤ fhD Γ) (v1 : Int32) (v2 : Int32)  (σ : fhM) (o : Bool) (h : f_X12_knowsBy v1 v2 σ = some o) (hk : (fun o => fhRet Γ (some (.int (fhb o))) σ) o) : fhW fhYM Γ 0 [(0, .ref 0), (1, .int v1), (2, .int v2)] [] σ := by
  unfold f_X12_knowsBy at h
  refine fhW.blk fhPM fhLL hΓ [(.iconst 0, 0), (.istore_n 3, 0), (.iconst 0, 0), (.istore 4, 0)] (pc' := 5) (lv' := [(4, .int (0 : Int32)), (3, .int (0 : Int32)), (0, .ref 0), (1, .int v1), (2, .int v2)]) (st' := []) (σ' := σ) (by decide +kernel) rfl rfl rfl ?_
  refine fhW.sub (lv' := [(0, .ref 0), (1, .int v1), (2, .int v2), (3, .int (0 : Int32)), (4, .int (0 : Int32))]) [2, 3, 4, 1, 0] rfl ?_
  exact fhlp_ok (W := (fun x => fhW fhYM Γ 5 [(0, .ref 0), (1, .int v1), (2, .int v2), (3, .int x.1), (4, .int x.2)] [] σ)) (B := (fun o => fhRet Γ (some (.int (fhb o))) σ)) (fun x o h hk => L_X12_knowsBy_5 hΓ hd v1 v2 x.1 x.2 σ o h hk) ((0 : Int32), (0 : Int32)) _ h hk
set_option maxRecDepth 100000 in
theorem T_X12_knowsBy {E : fhE} {d : Nat} (hd : 2 ≤ d) (v1 : Int32) (v2 : Int32)  (σ : fhM) {o : Bool} (h : f_X12_knowsBy v1 v2 σ = some o) : fhC fhYM E d miX12_knowsBy [.ref 0, .int v1, .int v2] σ (some (.int (fhb o))) σ := by
  refine fhC.of (y := yX12_knowsBy) (cc := cX12_knowsBy) (nL := 5) (ret := (some .boolean)) 12 rfl (by decide +kernel) (Nat.le_of_ble_eq_true rfl) ?_
  intro Γ hΓ hR hD hEn
  subst hD; subst hEn
  exact L_X12_knowsBy_E hΓ hd v1 v2  σ _ h hR
set_option maxRecDepth 100000 in
set_option maxHeartbeats 4000000 in
theorem L_X12_fewest_64 {Γ : fhX} (hΓ : fhOk fhYM 12 cX12_fewest 5 (some .int) Γ) (hd : 3 ≤ fhD Γ) (v1 : Int32) (v2 : Int32) (v3 : Int32) (v4 : Int32)  (σ : fhM) (o : (Int32 × Int32) ⊕ (Int32)) (h : f_X12_fewest_64 v1 v2 v3 v4 σ = some o) (hk : (fhK (fun x => fhW fhYM Γ 5 [(0, .ref 0), (1, .int v1), (2, .int v2), (3, .int x.1), (4, .int x.2)] [] σ) (fun o => fhRet Γ (some (.int o)) σ)) o) : fhW fhYM Γ 64 [(0, .ref 0), (1, .int v1), (2, .int v2), (3, .int v3), (4, .int v4)] [] σ := by
  unfold f_X12_fewest_64 at h
  refine fhW.blk fhPM fhLL hΓ [(.iinc 4 1, 1)] (pc' := 67) (lv' := [(4, .int (v4 + (1 : Int32))), (0, .ref 0), (1, .int v1), (2, .int v2), (3, .int v3)]) (st' := []) (σ' := σ) (by decide +kernel) rfl rfl rfl ?_
  refine fhW.goto hΓ (off := (-62)) (tgt := 5) (by decide +kernel) ?_
  refine fhW.sub (lv' := [(0, .ref 0), (1, .int v1), (2, .int v2), (3, .int v3), (4, .int (v4 + (1 : Int32)))]) [1, 2, 3, 4, 0] rfl ?_
  have e9 := Option.some.inj h
  subst e9
  exact hk
set_option maxRecDepth 100000 in
set_option maxHeartbeats 4000000 in
theorem L_X12_fewest_61 {Γ : fhX} (hΓ : fhOk fhYM 12 cX12_fewest 5 (some .int) Γ) (hd : 3 ≤ fhD Γ) (v1 : Int32) (v2 : Int32) (v4 : Int32)  (σ : fhM) (o : (Int32 × Int32) ⊕ (Int32)) (h : f_X12_fewest_61 v1 v2 v4 σ = some o) (hk : (fhK (fun x => fhW fhYM Γ 5 [(0, .ref 0), (1, .int v1), (2, .int v2), (3, .int x.1), (4, .int x.2)] [] σ) (fun o => fhRet Γ (some (.int o)) σ)) o) : fhW fhYM Γ 61 [(0, .ref 0), (1, .int v1), (2, .int v2), (4, .int v4)] [] σ := by
  unfold f_X12_fewest_61 at h
  refine fhW.blk fhPM fhLL hΓ [(.iload 4, 0), (.istore_n 3, 0)] (pc' := 64) (lv' := [(3, .int v4), (0, .ref 0), (1, .int v1), (2, .int v2), (4, .int v4)]) (st' := []) (σ' := σ) (by decide +kernel) rfl rfl rfl ?_
  refine fhW.sub (lv' := [(0, .ref 0), (1, .int v1), (2, .int v2), (3, .int v4), (4, .int v4)]) [1, 2, 3, 0, 4] rfl ?_
  exact L_X12_fewest_64 hΓ hd v1 v2 v4 v4 σ _ h hk
set_option maxRecDepth 100000 in
set_option maxHeartbeats 4000000 in
theorem L_X12_fewest_36 {Γ : fhX} (hΓ : fhOk fhYM 12 cX12_fewest 5 (some .int) Γ) (hd : 3 ≤ fhD Γ) (v1 : Int32) (v2 : Int32) (v3 : Int32) (v4 : Int32)  (σ : fhM) (o : (Int32 × Int32) ⊕ (Int32)) (h : f_X12_fewest_36 v1 v2 v3 v4 σ = some o) (hk : (fhK (fun x => fhW fhYM Γ 5 [(0, .ref 0), (1, .int v1), (2, .int v2), (3, .int x.1), (4, .int x.2)] [] σ) (fun o => fhRet Γ (some (.int o)) σ)) o) : fhW fhYM Γ 36 [(0, .ref 0), (1, .int v1), (2, .int v2), (3, .int v3), (4, .int v4)] [] σ := by
  unfold f_X12_fewest_36 at h
  refine fhW.blk fhPM fhLL hΓ [(.aload_n 0, 0), (.iload 4, 0), (.iload_n 1, 0)] (pc' := 40) (lv' := [(0, .ref 0), (1, .int v1), (2, .int v2), (3, .int v3), (4, .int v4)]) (st' := [.int v1, .int v4, .ref 0]) (σ' := σ) (by decide +kernel) rfl rfl rfl ?_
  obtain ⟨q3, hb1, h⟩ := Option.bind_eq_some_iff.mp h
  refine fhW.callv hΓ mvX12_knowsBy ml_12_539 (t := 0) (ci := 12) (av := [.int v4, .int v1]) (rest := []) (r := (some (.int (fhb q3)))) (σ' := σ) (T_X12_knowsBy (E := fhEn Γ) (d := fhD Γ - 1) (by omega) v4 v1 σ hb1) (by omega) (by decide +kernel) rfl rfl rfl (Nat.le_of_ble_eq_true rfl) rfl ?_
  show fhW fhYM Γ 43 [(0, .ref 0), (1, .int v1), (2, .int v2), (3, .int v3), (4, .int v4)] [.int (fhb q3)] σ
  refine fhW.b_eq hΓ (tgt := 64) (show fhbk _ _ (.ifCond .eq (21)) _ = true by decide +kernel) (fun hc => ?_) (fun hc => ?_)
  · rw [if_neg hc] at h
    refine fhW.sub (lv' := [(0, .ref 0), (1, .int v1), (2, .int v2), (3, .int v3), (4, .int v4)]) [0, 1, 2, 3, 4] rfl ?_
    exact L_X12_fewest_64 hΓ hd v1 v2 v3 v4 σ _ h hk
  · rw [if_pos hc] at h
    refine fhW.blk fhPM fhLL hΓ [(.iload_n 2, 0), (.iconst (-1), -1)] (pc' := 48) (lv' := [(0, .ref 0), (1, .int v1), (2, .int v2), (3, .int v3), (4, .int v4)]) (st' := [.int (-1 : Int32), .int v2]) (σ' := σ) (by decide +kernel) rfl rfl rfl ?_
    refine fhW.i_eq hΓ (tgt := 61) (show fhbk _ _ (.if_icmp .eq (13)) _ = true by decide +kernel) (fun hc => ?_) (fun hc => ?_)
    · rw [if_pos hc] at h
      refine fhW.sub (lv' := [(0, .ref 0), (1, .int v1), (2, .int v2), (4, .int v4)]) [0, 1, 2, 4] rfl ?_
      exact L_X12_fewest_61 hΓ hd v1 v2 v4 σ _ h hk
    · rw [if_neg hc] at h
      refine fhW.blk fhPM fhLL hΓ [(.aload_n 0, 0), (.iload 4, 0), (.iload_n 2, 0)] (pc' := 55) (lv' := [(0, .ref 0), (1, .int v1), (2, .int v2), (3, .int v3), (4, .int v4)]) (st' := [.int v2, .int v4, .ref 0]) (σ' := σ) (by decide +kernel) rfl rfl rfl ?_
      obtain ⟨q4, hb2, h⟩ := Option.bind_eq_some_iff.mp h
      refine fhW.callv hΓ mvX12_knowsBy ml_12_539 (t := 0) (ci := 12) (av := [.int v4, .int v2]) (rest := []) (r := (some (.int (fhb q4)))) (σ' := σ) (T_X12_knowsBy (E := fhEn Γ) (d := fhD Γ - 1) (by omega) v4 v2 σ hb2) (by omega) (by decide +kernel) rfl rfl rfl (Nat.le_of_ble_eq_true rfl) rfl ?_
      show fhW fhYM Γ 58 [(0, .ref 0), (1, .int v1), (2, .int v2), (3, .int v3), (4, .int v4)] [.int (fhb q4)] σ
      refine fhW.b_ne hΓ (tgt := 64) (show fhbk _ _ (.ifCond .ne (6)) _ = true by decide +kernel) (fun hc => ?_) (fun hc => ?_)
      · rw [if_pos hc] at h
        refine fhW.sub (lv' := [(0, .ref 0), (1, .int v1), (2, .int v2), (3, .int v3), (4, .int v4)]) [0, 1, 2, 3, 4] rfl ?_
        exact L_X12_fewest_64 hΓ hd v1 v2 v3 v4 σ _ h hk
      · rw [if_neg hc] at h
        refine fhW.sub (lv' := [(0, .ref 0), (1, .int v1), (2, .int v2), (4, .int v4)]) [0, 1, 2, 4] rfl ?_
        exact L_X12_fewest_61 hΓ hd v1 v2 v4 σ _ h hk
set_option maxRecDepth 100000 in
set_option maxHeartbeats 4000000 in
theorem L_X12_fewest_5 {Γ : fhX} (hΓ : fhOk fhYM 12 cX12_fewest 5 (some .int) Γ) (hd : 3 ≤ fhD Γ) (v1 : Int32) (v2 : Int32) (v3 : Int32) (v4 : Int32)  (σ : fhM) (o : (Int32 × Int32) ⊕ (Int32)) (h : f_X12_fewest_5 v1 v2 v3 v4 σ = some o) (hk : (fhK (fun x => fhW fhYM Γ 5 [(0, .ref 0), (1, .int v1), (2, .int v2), (3, .int x.1), (4, .int x.2)] [] σ) (fun o => fhRet Γ (some (.int o)) σ)) o) : fhW fhYM Γ 5 [(0, .ref 0), (1, .int v1), (2, .int v2), (3, .int v3), (4, .int v4)] [] σ := by
  unfold f_X12_fewest_5 at h
  refine fhW.blk fhPM fhLL hΓ [(.iload 4, 0), (.iconst 1, 1), (.aload_n 0, 0)] (pc' := 9) (lv' := [(0, .ref 0), (1, .int v1), (2, .int v2), (3, .int v3), (4, .int v4)]) (st' := [.ref 0, .int (1 : Int32), .int v4]) (σ' := σ) (by decide +kernel) rfl rfl rfl ?_
  refine fhW.callv hΓ mvX12_factMany ml_12_511 (t := 0) (ci := 12) (av := []) (rest := [.int (1 : Int32), .int v4]) (r := (some (.int (f_X12_factMany σ)))) (σ' := σ) (T_X12_factMany (E := fhEn Γ) (d := fhD Γ - 1) (by omega) σ) (by omega) (by decide +kernel) rfl rfl rfl (Nat.le_of_ble_eq_true rfl) rfl ?_
  show fhW fhYM Γ 12 [(0, .ref 0), (1, .int v1), (2, .int v2), (3, .int v3), (4, .int v4)] [.int (f_X12_factMany σ), .int (1 : Int32), .int v4] σ
  refine fhW.blk fhPM fhLL hΓ [(.ishl, 0)] (pc' := 13) (lv' := [(0, .ref 0), (1, .int v1), (2, .int v2), (3, .int v3), (4, .int v4)]) (st' := [.int ((1 : Int32) <<< ((f_X12_factMany σ) &&& 31)), .int v4]) (σ' := σ) (by decide +kernel) rfl rfl rfl ?_
  refine fhW.i_ge hΓ (tgt := 70) (show fhbk _ _ (.if_icmp .ge (57)) _ = true by decide +kernel) (fun hc => ?_) (fun hc => ?_)
  · rw [if_pos hc] at h
    refine fhW.blk fhPM fhLL hΓ [(.iload_n 3, 0)] (pc' := 71) (lv' := [(0, .ref 0), (1, .int v1), (2, .int v2), (3, .int v3), (4, .int v4)]) (st' := [.int v3]) (σ' := σ) (by decide +kernel) rfl rfl rfl ?_
    have e9 := Option.some.inj h
    subst e9
    exact fhW.iret hΓ (by decide +kernel) hk
  · rw [if_neg hc] at h
    refine fhW.blk fhPM fhLL hΓ [(.iload_n 3, 0), (.iconst (-1), -1)] (pc' := 18) (lv' := [(0, .ref 0), (1, .int v1), (2, .int v2), (3, .int v3), (4, .int v4)]) (st' := [.int (-1 : Int32), .int v3]) (σ' := σ) (by decide +kernel) rfl rfl rfl ?_
    refine fhW.i_eq hΓ (tgt := 36) (show fhbk _ _ (.if_icmp .eq (18)) _ = true by decide +kernel) (fun hc => ?_) (fun hc => ?_)
    · rw [if_pos hc] at h
      refine fhW.sub (lv' := [(0, .ref 0), (1, .int v1), (2, .int v2), (3, .int v3), (4, .int v4)]) [0, 1, 2, 3, 4] rfl ?_
      exact L_X12_fewest_36 hΓ hd v1 v2 v3 v4 σ _ h hk
    · rw [if_neg hc] at h
      refine fhW.blk fhPM fhLL hΓ [(.iload 4, 0)] (pc' := 23) (lv' := [(0, .ref 0), (1, .int v1), (2, .int v2), (3, .int v3), (4, .int v4)]) (st' := [.int v4]) (σ' := σ) (by decide +kernel) rfl rfl rfl ?_
      obtain ⟨q1, hb3, h⟩ := Option.bind_eq_some_iff.mp h
      refine fhW.calls hΓ msX12_bits ml_12_502 (av := [.int v4]) (rest := []) (r := (some (.int q1))) (σ' := σ) (T_X12_bits (E := fhEn Γ) (d := fhD Γ - 1) (by omega) v4 σ hb3) (by omega) (by decide +kernel) rfl (Nat.le_of_ble_eq_true rfl) rfl ?_
      show fhW fhYM Γ 26 [(0, .ref 0), (1, .int v1), (2, .int v2), (3, .int v3), (4, .int v4)] [.int q1] σ
      refine fhW.blk fhPM fhLL hΓ [(.iload_n 3, 0)] (pc' := 27) (lv' := [(0, .ref 0), (1, .int v1), (2, .int v2), (3, .int v3), (4, .int v4)]) (st' := [.int v3, .int q1]) (σ' := σ) (by decide +kernel) rfl rfl rfl ?_
      obtain ⟨q2, hb4, h⟩ := Option.bind_eq_some_iff.mp h
      refine fhW.calls hΓ msX12_bits ml_12_502 (av := [.int v3]) (rest := [.int q1]) (r := (some (.int q2))) (σ' := σ) (T_X12_bits (E := fhEn Γ) (d := fhD Γ - 1) (by omega) v3 σ hb4) (by omega) (by decide +kernel) rfl (Nat.le_of_ble_eq_true rfl) rfl ?_
      show fhW fhYM Γ 30 [(0, .ref 0), (1, .int v1), (2, .int v2), (3, .int v3), (4, .int v4)] [.int q2, .int q1] σ
      refine fhW.i_lt hΓ (tgt := 36) (show fhbk _ _ (.if_icmp .lt (6)) _ = true by decide +kernel) (fun hc => ?_) (fun hc => ?_)
      · rw [if_pos hc] at h
        refine fhW.sub (lv' := [(0, .ref 0), (1, .int v1), (2, .int v2), (3, .int v3), (4, .int v4)]) [0, 1, 2, 3, 4] rfl ?_
        exact L_X12_fewest_36 hΓ hd v1 v2 v3 v4 σ _ h hk
      · rw [if_neg hc] at h
        refine fhW.goto hΓ (off := 31) (tgt := 64) (by decide +kernel) ?_
        refine fhW.sub (lv' := [(0, .ref 0), (1, .int v1), (2, .int v2), (3, .int v3), (4, .int v4)]) [0, 1, 2, 3, 4] rfl ?_
        exact L_X12_fewest_64 hΓ hd v1 v2 v3 v4 σ _ h hk
set_option maxRecDepth 100000 in
set_option maxHeartbeats 4000000 in
theorem L_X12_fewest_E {Γ : fhX} (hΓ : fhOk fhYM 12 cX12_fewest 5 (some .int) Γ) (hd : 3 ≤ fhD Γ) (v1 : Int32) (v2 : Int32)  (σ : fhM) (o : Int32) (h : f_X12_fewest v1 v2 σ = some o) (hk : (fun o => fhRet Γ (some (.int o)) σ) o) : fhW fhYM Γ 0 [(0, .ref 0), (1, .int v1), (2, .int v2)] [] σ := by
  unfold f_X12_fewest at h
  refine fhW.blk fhPM fhLL hΓ [(.iconst (-1), -1), (.istore_n 3, 0), (.iconst 0, 0), (.istore 4, 0)] (pc' := 5) (lv' := [(4, .int (0 : Int32)), (3, .int (-1 : Int32)), (0, .ref 0), (1, .int v1), (2, .int v2)]) (st' := []) (σ' := σ) (by decide +kernel) rfl rfl rfl ?_
  refine fhW.sub (lv' := [(0, .ref 0), (1, .int v1), (2, .int v2), (3, .int (-1 : Int32)), (4, .int (0 : Int32))]) [2, 3, 4, 1, 0] rfl ?_
  exact fhlp_ok (W := (fun x => fhW fhYM Γ 5 [(0, .ref 0), (1, .int v1), (2, .int v2), (3, .int x.1), (4, .int x.2)] [] σ)) (B := (fun o => fhRet Γ (some (.int o)) σ)) (fun x o h hk => L_X12_fewest_5 hΓ hd v1 v2 x.1 x.2 σ o h hk) ((-1 : Int32), (0 : Int32)) _ h hk
set_option maxRecDepth 100000 in
theorem T_X12_fewest {E : fhE} {d : Nat} (hd : 3 ≤ d) (v1 : Int32) (v2 : Int32)  (σ : fhM) {o : Int32} (h : f_X12_fewest v1 v2 σ = some o) : fhC fhYM E d miX12_fewest [.ref 0, .int v1, .int v2] σ (some (.int o)) σ := by
  refine fhC.of (y := yX12_fewest) (cc := cX12_fewest) (nL := 5) (ret := (some .int)) 12 rfl (by decide +kernel) (Nat.le_of_ble_eq_true rfl) ?_
  intro Γ hΓ hR hD hEn
  subst hD; subst hEn
  exact L_X12_fewest_E hΓ hd v1 v2  σ _ h hR
set_option maxRecDepth 100000 in
set_option maxHeartbeats 4000000 in
theorem L_X12_hints_E {Γ : fhX} (hΓ : fhOk fhYM 12 cX12_hints 2 (some .int) Γ) (hd : 4 ≤ fhD Γ) (v1 : Int32)  (σ : fhM) (o : Int32) (h : f_X12_hints v1 σ = some o) (hk : (fun o => fhRet Γ (some (.int o)) σ) o) : fhW fhYM Γ 0 [(0, .ref 0), (1, .int v1)] [] σ := by
  unfold f_X12_hints at h
  refine fhW.blk fhPM fhLL hΓ [(.aload_n 0, 0), (.iload_n 1, 0), (.i2l, 0)] (pc' := 3) (lv' := [(0, .ref 0), (1, .int v1)]) (st' := [.long (Int32.toInt64 v1), .ref 0]) (σ' := σ) (by decide +kernel) rfl rfl rfl ?_
  refine fhW.callv hΓ mvX12_isGuest ml_12_505 (t := 0) (ci := 12) (av := [.long (Int32.toInt64 v1)]) (rest := []) (r := (some (.int (fhb (f_X12_isGuest (Int32.toInt64 v1) σ))))) (σ' := σ) (T_X12_isGuest (E := fhEn Γ) (d := fhD Γ - 1) (by omega) (Int32.toInt64 v1) σ) (by omega) (by decide +kernel) rfl rfl rfl (Nat.le_of_ble_eq_true rfl) rfl ?_
  show fhW fhYM Γ 6 [(0, .ref 0), (1, .int v1)] [.int (fhb (f_X12_isGuest (Int32.toInt64 v1) σ))] σ
  refine fhW.b_eq hΓ (tgt := 18) (show fhbk _ _ (.ifCond .eq (12)) _ = true by decide +kernel) (fun hc => ?_) (fun hc => ?_)
  · rw [if_neg hc] at h
    refine fhW.blk fhPM fhLL hΓ [(.iconst (-1), -1)] (pc' := 19) (lv' := [(0, .ref 0), (1, .int v1)]) (st' := [.int (-1 : Int32)]) (σ' := σ) (by decide +kernel) rfl rfl rfl ?_
    have e9 := Option.some.inj h
    subst e9
    exact fhW.iret hΓ (by decide +kernel) hk
  · rw [if_pos hc] at h
    refine fhW.blk fhPM fhLL hΓ [(.aload_n 0, 0), (.iload_n 1, 0), (.iconst (-1), -1)] (pc' := 12) (lv' := [(0, .ref 0), (1, .int v1)]) (st' := [.int (-1 : Int32), .int v1, .ref 0]) (σ' := σ) (by decide +kernel) rfl rfl rfl ?_
    obtain ⟨q1, hb1, h⟩ := Option.bind_eq_some_iff.mp h
    refine fhW.callv hΓ mvX12_fewest ml_12_542 (t := 0) (ci := 12) (av := [.int v1, .int (-1 : Int32)]) (rest := []) (r := (some (.int q1))) (σ' := σ) (T_X12_fewest (E := fhEn Γ) (d := fhD Γ - 1) (by omega) v1 (-1 : Int32) σ hb1) (by omega) (by decide +kernel) rfl rfl rfl (Nat.le_of_ble_eq_true rfl) rfl ?_
    show fhW fhYM Γ 15 [(0, .ref 0), (1, .int v1)] [.int q1] σ
    refine fhW.goto hΓ (off := 4) (tgt := 19) (by decide +kernel) ?_
    have e9 := Option.some.inj h
    subst e9
    exact fhW.iret hΓ (by decide +kernel) hk
set_option maxRecDepth 100000 in
theorem T_X12_hints {E : fhE} {d : Nat} (hd : 4 ≤ d) (v1 : Int32)  (σ : fhM) {o : Int32} (h : f_X12_hints v1 σ = some o) : fhC fhYM E d miX12_hints [.ref 0, .int v1] σ (some (.int o)) σ := by
  refine fhC.of (y := yX12_hints) (cc := cX12_hints) (nL := 2) (ret := (some .int)) 12 rfl (by decide +kernel) (Nat.le_of_ble_eq_true rfl) ?_
  intro Γ hΓ hR hD hEn
  subst hD; subst hEn
  exact L_X12_hints_E hΓ hd v1  σ _ h hR
set_option maxRecDepth 100000 in
set_option maxHeartbeats 4000000 in
theorem L_X12_secret_E {Γ : fhX} (hΓ : fhOk fhYM 12 cX12_secret 3 (some .int) Γ) (hd : 4 ≤ fhD Γ) (v1 : Int32) (v2 : Int32)  (σ : fhM) (o : Int32) (h : f_X12_secret v1 v2 σ = some o) (hk : (fun o => fhRet Γ (some (.int o)) σ) o) : fhW fhYM Γ 0 [(0, .ref 0), (1, .int v1), (2, .int v2)] [] σ := by
  unfold f_X12_secret at h
  refine fhW.blk fhPM fhLL hΓ [(.aload_n 0, 0), (.iload_n 1, 0), (.i2l, 0)] (pc' := 3) (lv' := [(0, .ref 0), (1, .int v1), (2, .int v2)]) (st' := [.long (Int32.toInt64 v1), .ref 0]) (σ' := σ) (by decide +kernel) rfl rfl rfl ?_
  refine fhW.callv hΓ mvX12_isGuest ml_12_505 (t := 0) (ci := 12) (av := [.long (Int32.toInt64 v1)]) (rest := []) (r := (some (.int (fhb (f_X12_isGuest (Int32.toInt64 v1) σ))))) (σ' := σ) (T_X12_isGuest (E := fhEn Γ) (d := fhD Γ - 1) (by omega) (Int32.toInt64 v1) σ) (by omega) (by decide +kernel) rfl rfl rfl (Nat.le_of_ble_eq_true rfl) rfl ?_
  show fhW fhYM Γ 6 [(0, .ref 0), (1, .int v1), (2, .int v2)] [.int (fhb (f_X12_isGuest (Int32.toInt64 v1) σ))] σ
  refine fhW.b_eq hΓ (tgt := 32) (show fhbk _ _ (.ifCond .eq (26)) _ = true by decide +kernel) (fun hc => ?_) (fun hc => ?_)
  · rw [if_neg hc] at h
    refine fhW.blk fhPM fhLL hΓ [(.iconst (-1), -1)] (pc' := 33) (lv' := [(0, .ref 0), (1, .int v1), (2, .int v2)]) (st' := [.int (-1 : Int32)]) (σ' := σ) (by decide +kernel) rfl rfl rfl ?_
    have e9 := Option.some.inj h
    subst e9
    exact fhW.iret hΓ (by decide +kernel) hk
  · rw [if_pos hc] at h
    refine fhW.blk fhPM fhLL hΓ [(.aload_n 0, 0), (.iload_n 2, 0), (.i2l, 0)] (pc' := 12) (lv' := [(0, .ref 0), (1, .int v1), (2, .int v2)]) (st' := [.long (Int32.toInt64 v2), .ref 0]) (σ' := σ) (by decide +kernel) rfl rfl rfl ?_
    refine fhW.callv hΓ mvX12_isGuest ml_12_505 (t := 0) (ci := 12) (av := [.long (Int32.toInt64 v2)]) (rest := []) (r := (some (.int (fhb (f_X12_isGuest (Int32.toInt64 v2) σ))))) (σ' := σ) (T_X12_isGuest (E := fhEn Γ) (d := fhD Γ - 1) (by omega) (Int32.toInt64 v2) σ) (by omega) (by decide +kernel) rfl rfl rfl (Nat.le_of_ble_eq_true rfl) rfl ?_
    show fhW fhYM Γ 15 [(0, .ref 0), (1, .int v1), (2, .int v2)] [.int (fhb (f_X12_isGuest (Int32.toInt64 v2) σ))] σ
    refine fhW.b_eq hΓ (tgt := 32) (show fhbk _ _ (.ifCond .eq (17)) _ = true by decide +kernel) (fun hc => ?_) (fun hc => ?_)
    · rw [if_neg hc] at h
      refine fhW.blk fhPM fhLL hΓ [(.iconst (-1), -1)] (pc' := 33) (lv' := [(0, .ref 0), (1, .int v1), (2, .int v2)]) (st' := [.int (-1 : Int32)]) (σ' := σ) (by decide +kernel) rfl rfl rfl ?_
      have e9 := Option.some.inj h
      subst e9
      exact fhW.iret hΓ (by decide +kernel) hk
    · rw [if_pos hc] at h
      refine fhW.blk fhPM fhLL hΓ [(.iload_n 1, 0), (.iload_n 2, 0)] (pc' := 20) (lv' := [(0, .ref 0), (1, .int v1), (2, .int v2)]) (st' := [.int v2, .int v1]) (σ' := σ) (by decide +kernel) rfl rfl rfl ?_
      refine fhW.i_eq hΓ (tgt := 32) (show fhbk _ _ (.if_icmp .eq (12)) _ = true by decide +kernel) (fun hc => ?_) (fun hc => ?_)
      · rw [if_pos hc] at h
        refine fhW.blk fhPM fhLL hΓ [(.iconst (-1), -1)] (pc' := 33) (lv' := [(0, .ref 0), (1, .int v1), (2, .int v2)]) (st' := [.int (-1 : Int32)]) (σ' := σ) (by decide +kernel) rfl rfl rfl ?_
        have e9 := Option.some.inj h
        subst e9
        exact fhW.iret hΓ (by decide +kernel) hk
      · rw [if_neg hc] at h
        refine fhW.blk fhPM fhLL hΓ [(.aload_n 0, 0), (.iload_n 1, 0), (.iload_n 2, 0)] (pc' := 26) (lv' := [(0, .ref 0), (1, .int v1), (2, .int v2)]) (st' := [.int v2, .int v1, .ref 0]) (σ' := σ) (by decide +kernel) rfl rfl rfl ?_
        obtain ⟨q1, hb1, h⟩ := Option.bind_eq_some_iff.mp h
        refine fhW.callv hΓ mvX12_fewest ml_12_542 (t := 0) (ci := 12) (av := [.int v1, .int v2]) (rest := []) (r := (some (.int q1))) (σ' := σ) (T_X12_fewest (E := fhEn Γ) (d := fhD Γ - 1) (by omega) v1 v2 σ hb1) (by omega) (by decide +kernel) rfl rfl rfl (Nat.le_of_ble_eq_true rfl) rfl ?_
        show fhW fhYM Γ 29 [(0, .ref 0), (1, .int v1), (2, .int v2)] [.int q1] σ
        refine fhW.goto hΓ (off := 4) (tgt := 33) (by decide +kernel) ?_
        have e9 := Option.some.inj h
        subst e9
        exact fhW.iret hΓ (by decide +kernel) hk
set_option maxRecDepth 100000 in
theorem T_X12_secret {E : fhE} {d : Nat} (hd : 4 ≤ d) (v1 : Int32) (v2 : Int32)  (σ : fhM) {o : Int32} (h : f_X12_secret v1 v2 σ = some o) : fhC fhYM E d miX12_secret [.ref 0, .int v1, .int v2] σ (some (.int o)) σ := by
  refine fhC.of (y := yX12_secret) (cc := cX12_secret) (nL := 3) (ret := (some .int)) 12 rfl (by decide +kernel) (Nat.le_of_ble_eq_true rfl) ?_
  intro Γ hΓ hR hD hEn
  subst hD; subst hEn
  exact L_X12_secret_E hΓ hd v1 v2  σ _ h hR
set_option maxRecDepth 100000 in
set_option maxHeartbeats 4000000 in
theorem L_X12_leftIfSays_51 {Γ : fhX} (hΓ : fhOk fhYM 12 cX12_leftIfSays 4 (some .int) Γ) (hd : 1 ≤ fhD Γ) (v1 : Int32) (v2 : Int32) (v3 : Int32)  (σ : fhM) (o : (Int32 × Int32) ⊕ (Int32)) (h : f_X12_leftIfSays_51 v1 v2 v3 σ = some o) (hk : (fhK (fun x => fhW fhYM Γ 4 [(0, .ref 0), (1, .int v1), (2, .int x.1), (3, .int x.2)] [] σ) (fun o => fhRet Γ (some (.int o)) σ)) o) : fhW fhYM Γ 51 [(0, .ref 0), (1, .int v1), (2, .int v2), (3, .int v3)] [] σ := by
  unfold f_X12_leftIfSays_51 at h
  refine fhW.blk fhPM fhLL hΓ [(.iinc 3 1, 1)] (pc' := 54) (lv' := [(3, .int (v3 + (1 : Int32))), (0, .ref 0), (1, .int v1), (2, .int v2)]) (st' := []) (σ' := σ) (by decide +kernel) rfl rfl rfl ?_
  refine fhW.goto hΓ (off := (-50)) (tgt := 4) (by decide +kernel) ?_
  refine fhW.sub (lv' := [(0, .ref 0), (1, .int v1), (2, .int v2), (3, .int (v3 + (1 : Int32)))]) [1, 2, 3, 0] rfl ?_
  have e9 := Option.some.inj h
  subst e9
  exact hk
set_option maxRecDepth 100000 in
set_option maxHeartbeats 4000000 in
theorem L_X12_leftIfSays_4 {Γ : fhX} (hΓ : fhOk fhYM 12 cX12_leftIfSays 4 (some .int) Γ) (hd : 1 ≤ fhD Γ) (v1 : Int32) (v2 : Int32) (v3 : Int32)  (σ : fhM) (o : (Int32 × Int32) ⊕ (Int32)) (h : f_X12_leftIfSays_4 v1 v2 v3 σ = some o) (hk : (fhK (fun x => fhW fhYM Γ 4 [(0, .ref 0), (1, .int v1), (2, .int x.1), (3, .int x.2)] [] σ) (fun o => fhRet Γ (some (.int o)) σ)) o) : fhW fhYM Γ 4 [(0, .ref 0), (1, .int v1), (2, .int v2), (3, .int v3)] [] σ := by
  unfold f_X12_leftIfSays_4 at h
  refine fhW.blk fhPM fhLL hΓ [(.iload_n 3, 0), (.aload_n 0, 0), (.getfield 432, 0)] (pc' := 9) (lv' := [(0, .ref 0), (1, .int v1), (2, .int v2), (3, .int v3)]) (st' := [.int (σ.1 0 52), .int v3]) (σ' := σ) (by decide +kernel) rfl rfl rfl ?_
  refine fhW.i_ge hΓ (tgt := 57) (show fhbk _ _ (.if_icmp .ge (48)) _ = true by decide +kernel) (fun hc => ?_) (fun hc => ?_)
  · rw [if_pos hc] at h
    refine fhW.blk fhPM fhLL hΓ [(.iload_n 2, 0)] (pc' := 58) (lv' := [(0, .ref 0), (1, .int v1), (2, .int v2), (3, .int v3)]) (st' := [.int v2]) (σ' := σ) (by decide +kernel) rfl rfl rfl ?_
    have e9 := Option.some.inj h
    subst e9
    exact fhW.iret hΓ (by decide +kernel) hk
  · rw [if_neg hc] at h
    refine fhW.blk fhPM fhLL hΓ [(.aload_n 0, 0), (.iload_n 3, 0)] (pc' := 14) (lv' := [(0, .ref 0), (1, .int v1), (2, .int v2), (3, .int v3)]) (st' := [.int v3, .ref 0]) (σ' := σ) (by decide +kernel) rfl rfl rfl ?_
    obtain ⟨q1, hb1, h⟩ := Option.bind_eq_some_iff.mp h
    refine fhW.callv hΓ mvX12_isLeft ml_12_478 (t := 0) (ci := 12) (av := [.int v3]) (rest := []) (r := (some (.int (fhb q1)))) (σ' := σ) (T_X12_isLeft (E := fhEn Γ) (d := fhD Γ - 1) (by omega) v3 σ hb1) (by omega) (by decide +kernel) rfl rfl rfl (Nat.le_of_ble_eq_true rfl) rfl ?_
    show fhW fhYM Γ 17 [(0, .ref 0), (1, .int v1), (2, .int v2), (3, .int v3)] [.int (fhb q1)] σ
    refine fhW.b_eq hΓ (tgt := 51) (show fhbk _ _ (.ifCond .eq (34)) _ = true by decide +kernel) (fun hc => ?_) (fun hc => ?_)
    · rw [if_neg hc] at h
      refine fhW.sub (lv' := [(0, .ref 0), (1, .int v1), (2, .int v2), (3, .int v3)]) [0, 1, 2, 3] rfl ?_
      exact L_X12_leftIfSays_51 hΓ hd v1 v2 v3 σ _ h hk
    · rw [if_pos hc] at h
      obtain ⟨hg1, h⟩ := fhif h
      refine fhW.blk fhPM fhLL hΓ [(.aload_n 0, 0), (.getfield 153, 0), (.iload_n 3, 0), (.iaload, 0), (.iload_n 1, 0), (.ishr, 0), (.iconst 1, 1), (.iand, 0), (.aload_n 0, 0), (.getfield 153, 0), (.aload_n 0, 0), (.getfield 147, 0), (.iconst 1, 1), (.iaload, 0), (.iaload, 0), (.iload_n 1, 0), (.ishr, 0), (.iconst 1, 1), (.iand, 0)] (pc' := 45) (lv' := [(0, .ref 0), (1, .int v1), (2, .int v2), (3, .int v3)]) (st' := [.int (((σ.1 46 (fhix (σ.1 44 1))) >>> (v1 &&& 31)) &&& (1 : Int32)), .int (((σ.1 46 (fhix v3)) >>> (v1 &&& 31)) &&& (1 : Int32))]) (σ' := σ) (by decide +kernel) rfl rfl hg1 ?_
      refine fhW.i_ne hΓ (tgt := 51) (show fhbk _ _ (.if_icmp .ne (6)) _ = true by decide +kernel) (fun hc => ?_) (fun hc => ?_)
      · simp only [if_neg hc] at h
        refine fhW.sub (lv' := [(0, .ref 0), (1, .int v1), (2, .int v2), (3, .int v3)]) [0, 1, 2, 3] rfl ?_
        exact L_X12_leftIfSays_51 hΓ hd v1 v2 v3 σ _ h hk
      · simp only [if_pos hc] at h
        refine fhW.blk fhPM fhLL hΓ [(.iinc 2 1, 1)] (pc' := 51) (lv' := [(2, .int (v2 + (1 : Int32))), (0, .ref 0), (1, .int v1), (3, .int v3)]) (st' := []) (σ' := σ) (by decide +kernel) rfl rfl rfl ?_
        refine fhW.sub (lv' := [(0, .ref 0), (1, .int v1), (2, .int (v2 + (1 : Int32))), (3, .int v3)]) [1, 2, 0, 3] rfl ?_
        exact L_X12_leftIfSays_51 hΓ hd v1 (v2 + (1 : Int32)) v3 σ _ h hk
set_option maxRecDepth 100000 in
set_option maxHeartbeats 4000000 in
theorem L_X12_leftIfSays_E {Γ : fhX} (hΓ : fhOk fhYM 12 cX12_leftIfSays 4 (some .int) Γ) (hd : 1 ≤ fhD Γ) (v1 : Int32)  (σ : fhM) (o : Int32) (h : f_X12_leftIfSays v1 σ = some o) (hk : (fun o => fhRet Γ (some (.int o)) σ) o) : fhW fhYM Γ 0 [(0, .ref 0), (1, .int v1)] [] σ := by
  unfold f_X12_leftIfSays at h
  refine fhW.blk fhPM fhLL hΓ [(.iconst 0, 0), (.istore_n 2, 0), (.iconst 0, 0), (.istore_n 3, 0)] (pc' := 4) (lv' := [(3, .int (0 : Int32)), (2, .int (0 : Int32)), (0, .ref 0), (1, .int v1)]) (st' := []) (σ' := σ) (by decide +kernel) rfl rfl rfl ?_
  refine fhW.sub (lv' := [(0, .ref 0), (1, .int v1), (2, .int (0 : Int32)), (3, .int (0 : Int32))]) [2, 3, 1, 0] rfl ?_
  exact fhlp_ok (W := (fun x => fhW fhYM Γ 4 [(0, .ref 0), (1, .int v1), (2, .int x.1), (3, .int x.2)] [] σ)) (B := (fun o => fhRet Γ (some (.int o)) σ)) (fun x o h hk => L_X12_leftIfSays_4 hΓ hd v1 x.1 x.2 σ o h hk) ((0 : Int32), (0 : Int32)) _ h hk
set_option maxRecDepth 100000 in
theorem T_X12_leftIfSays {E : fhE} {d : Nat} (hd : 1 ≤ d) (v1 : Int32)  (σ : fhM) {o : Int32} (h : f_X12_leftIfSays v1 σ = some o) : fhC fhYM E d miX12_leftIfSays [.ref 0, .int v1] σ (some (.int o)) σ := by
  refine fhC.of (y := yX12_leftIfSays) (cc := cX12_leftIfSays) (nL := 4) (ret := (some .int)) 12 rfl (by decide +kernel) (Nat.le_of_ble_eq_true rfl) ?_
  intro Γ hΓ hR hD hEn
  subst hD; subst hEn
  exact L_X12_leftIfSays_E hΓ hd v1  σ _ h hR
set_option maxRecDepth 100000 in
set_option maxHeartbeats 4000000 in
theorem L_X12_speaker_60 {Γ : fhX} (hΓ : fhOk fhYM 12 cX12_speaker 6 (some .int) Γ) (hd : 3 ≤ fhD Γ) (v1 : Int32) (v2 : Int32) (v3 : Int32) (v4 : Int32)  (σ : fhM) (o : (Int32 × Int32 × Int32) ⊕ (Int32 × fhM)) (h : f_X12_speaker_60 v1 v2 v3 v4 σ = some o) (hk : (fhK (fun x => fhW fhYM Γ 23 [(0, .ref 0), (1, .int v1), (2, .int x.1), (3, .int x.2.1), (4, .int x.2.2)] [] σ) (fun o => fhRet Γ (some (.int o.1)) o.2)) o) : fhW fhYM Γ 60 [(0, .ref 0), (1, .int v1), (2, .int v2), (3, .int v3), (4, .int v4)] [] σ := by
  unfold f_X12_speaker_60 at h
  refine fhW.blk fhPM fhLL hΓ [(.iinc 4 1, 1)] (pc' := 63) (lv' := [(4, .int (v4 + (1 : Int32))), (0, .ref 0), (1, .int v1), (2, .int v2), (3, .int v3)]) (st' := []) (σ' := σ) (by decide +kernel) rfl rfl rfl ?_
  refine fhW.goto hΓ (off := (-40)) (tgt := 23) (by decide +kernel) ?_
  refine fhW.sub (lv' := [(0, .ref 0), (1, .int v1), (2, .int v2), (3, .int v3), (4, .int (v4 + (1 : Int32)))]) [1, 2, 3, 4, 0] rfl ?_
  have e9 := Option.some.inj h
  subst e9
  exact hk
set_option maxRecDepth 100000 in
set_option maxHeartbeats 4000000 in
theorem L_X12_speaker_54 {Γ : fhX} (hΓ : fhOk fhYM 12 cX12_speaker 6 (some .int) Γ) (hd : 3 ≤ fhD Γ) (v1 : Int32) (v4 : Int32) (v5 : Int32)  (σ : fhM) (o : (Int32 × Int32 × Int32) ⊕ (Int32 × fhM)) (h : f_X12_speaker_54 v1 v4 v5 σ = some o) (hk : (fhK (fun x => fhW fhYM Γ 23 [(0, .ref 0), (1, .int v1), (2, .int x.1), (3, .int x.2.1), (4, .int x.2.2)] [] σ) (fun o => fhRet Γ (some (.int o.1)) o.2)) o) : fhW fhYM Γ 54 [(0, .ref 0), (1, .int v1), (4, .int v4), (5, .int v5)] [] σ := by
  unfold f_X12_speaker_54 at h
  refine fhW.blk fhPM fhLL hΓ [(.iload 4, 0), (.istore_n 2, 0), (.iload 5, 0), (.istore_n 3, 0)] (pc' := 60) (lv' := [(3, .int v5), (2, .int v4), (0, .ref 0), (1, .int v1), (4, .int v4), (5, .int v5)]) (st' := []) (σ' := σ) (by decide +kernel) rfl rfl rfl ?_
  refine fhW.sub (lv' := [(0, .ref 0), (1, .int v1), (2, .int v4), (3, .int v5), (4, .int v4)]) [2, 3, 1, 0, 4] rfl ?_
  exact L_X12_speaker_60 hΓ hd v1 v4 v5 v4 σ _ h hk
set_option maxRecDepth 100000 in
set_option maxHeartbeats 4000000 in
theorem L_X12_speaker_23 {Γ : fhX} (hΓ : fhOk fhYM 12 cX12_speaker 6 (some .int) Γ) (hd : 3 ≤ fhD Γ) (v1 : Int32) (v2 : Int32) (v3 : Int32) (v4 : Int32)  (σ : fhM) (o : (Int32 × Int32 × Int32) ⊕ (Int32 × fhM)) (h : f_X12_speaker_23 v1 v2 v3 v4 σ = some o) (hk : (fhK (fun x => fhW fhYM Γ 23 [(0, .ref 0), (1, .int v1), (2, .int x.1), (3, .int x.2.1), (4, .int x.2.2)] [] σ) (fun o => fhRet Γ (some (.int o.1)) o.2)) o) : fhW fhYM Γ 23 [(0, .ref 0), (1, .int v1), (2, .int v2), (3, .int v3), (4, .int v4)] [] σ := by
  unfold f_X12_speaker_23 at h
  refine fhW.blk fhPM fhLL hΓ [(.iload 4, 0), (.aload_n 0, 0)] (pc' := 26) (lv' := [(0, .ref 0), (1, .int v1), (2, .int v2), (3, .int v3), (4, .int v4)]) (st' := [.ref 0, .int v4]) (σ' := σ) (by decide +kernel) rfl rfl rfl ?_
  refine fhW.callv hΓ mvX12_guestMany ml_12_423 (t := 0) (ci := 12) (av := []) (rest := [.int v4]) (r := (some (.int (f_X12_guestMany σ)))) (σ' := σ) (T_X12_guestMany (E := fhEn Γ) (d := fhD Γ - 1) (by omega) σ) (by omega) (by decide +kernel) rfl rfl rfl (Nat.le_of_ble_eq_true rfl) rfl ?_
  show fhW fhYM Γ 29 [(0, .ref 0), (1, .int v1), (2, .int v2), (3, .int v3), (4, .int v4)] [.int (f_X12_guestMany σ), .int v4] σ
  refine fhW.i_ge hΓ (tgt := 66) (show fhbk _ _ (.if_icmp .ge (37)) _ = true by decide +kernel) (fun hc => ?_) (fun hc => ?_)
  · rw [if_pos hc] at h
    refine fhW.blk fhPM fhLL hΓ [(.iload_n 1, 0)] (pc' := 67) (lv' := [(0, .ref 0), (1, .int v1), (2, .int v2), (3, .int v3), (4, .int v4)]) (st' := [.int v1]) (σ' := σ) (by decide +kernel) rfl rfl rfl ?_
    refine fhW.z_ne hΓ (tgt := 74) (show fhbk _ _ (.ifCond .ne (7)) _ = true by decide +kernel) (fun hc => ?_) (fun hc => ?_)
    · rw [if_neg hc] at h
      refine fhW.blk fhPM fhLL hΓ [(.iload_n 3, 0)] (pc' := 75) (lv' := [(0, .ref 0), (1, .int v1), (2, .int v2), (3, .int v3), (4, .int v4)]) (st' := [.int v3]) (σ' := σ) (by decide +kernel) rfl rfl rfl ?_
      have e9 := Option.some.inj h
      subst e9
      exact fhW.iret hΓ (by decide +kernel) hk
    · rw [if_pos hc] at h
      refine fhW.blk fhPM fhLL hΓ [(.iload_n 2, 0)] (pc' := 71) (lv' := [(0, .ref 0), (1, .int v1), (2, .int v2), (3, .int v3), (4, .int v4)]) (st' := [.int v2]) (σ' := σ) (by decide +kernel) rfl rfl rfl ?_
      refine fhW.goto hΓ (off := 4) (tgt := 75) (by decide +kernel) ?_
      have e9 := Option.some.inj h
      subst e9
      exact fhW.iret hΓ (by decide +kernel) hk
  · rw [if_neg hc] at h
    refine fhW.blk fhPM fhLL hΓ [(.aload_n 0, 0), (.iload 4, 0)] (pc' := 35) (lv' := [(0, .ref 0), (1, .int v1), (2, .int v2), (3, .int v3), (4, .int v4)]) (st' := [.int v4, .ref 0]) (σ' := σ) (by decide +kernel) rfl rfl rfl ?_
    obtain ⟨q2, hb1, h⟩ := Option.bind_eq_some_iff.mp h
    refine fhW.callv hΓ mvX12_leftIfSays ml_12_545 (t := 0) (ci := 12) (av := [.int v4]) (rest := []) (r := (some (.int q2))) (σ' := σ) (T_X12_leftIfSays (E := fhEn Γ) (d := fhD Γ - 1) (by omega) v4 σ hb1) (by omega) (by decide +kernel) rfl rfl rfl (Nat.le_of_ble_eq_true rfl) rfl ?_
    show fhW fhYM Γ 38 [(0, .ref 0), (1, .int v1), (2, .int v2), (3, .int v3), (4, .int v4)] [.int q2] σ
    refine fhW.blk fhPM fhLL hΓ [(.istore 5, 0), (.iload_n 2, 0), (.iconst (-1), -1)] (pc' := 42) (lv' := [(5, .int q2), (0, .ref 0), (1, .int v1), (2, .int v2), (3, .int v3), (4, .int v4)]) (st' := [.int (-1 : Int32), .int v2]) (σ' := σ) (by decide +kernel) rfl rfl rfl ?_
    refine fhW.i_eq hΓ (tgt := 54) (show fhbk _ _ (.if_icmp .eq (12)) _ = true by decide +kernel) (fun hc => ?_) (fun hc => ?_)
    · rw [if_pos hc] at h
      refine fhW.sub (lv' := [(0, .ref 0), (1, .int v1), (4, .int v4), (5, .int q2)]) [1, 2, 5, 0] rfl ?_
      exact L_X12_speaker_54 hΓ hd v1 v4 q2 σ _ h hk
    · rw [if_neg hc] at h
      refine fhW.blk fhPM fhLL hΓ [(.iload 5, 0), (.iload_n 3, 0)] (pc' := 48) (lv' := [(5, .int q2), (0, .ref 0), (1, .int v1), (2, .int v2), (3, .int v3), (4, .int v4)]) (st' := [.int v3, .int q2]) (σ' := σ) (by decide +kernel) rfl rfl rfl ?_
      refine fhW.i_lt hΓ (tgt := 54) (show fhbk _ _ (.if_icmp .lt (6)) _ = true by decide +kernel) (fun hc => ?_) (fun hc => ?_)
      · rw [if_pos hc] at h
        refine fhW.sub (lv' := [(0, .ref 0), (1, .int v1), (4, .int v4), (5, .int q2)]) [1, 2, 5, 0] rfl ?_
        exact L_X12_speaker_54 hΓ hd v1 v4 q2 σ _ h hk
      · rw [if_neg hc] at h
        refine fhW.goto hΓ (off := 9) (tgt := 60) (by decide +kernel) ?_
        refine fhW.sub (lv' := [(0, .ref 0), (1, .int v1), (2, .int v2), (3, .int v3), (4, .int v4)]) [1, 2, 3, 4, 5] rfl ?_
        exact L_X12_speaker_60 hΓ hd v1 v2 v3 v4 σ _ h hk
set_option maxRecDepth 100000 in
set_option maxHeartbeats 4000000 in
theorem L_X12_speaker_E {Γ : fhX} (hΓ : fhOk fhYM 12 cX12_speaker 6 (some .int) Γ) (hd : 3 ≤ fhD Γ) (v1 : Int32)  (σ : fhM) (o : Int32 × fhM) (h : f_X12_speaker v1 σ = some o) (hk : (fun o => fhRet Γ (some (.int o.1)) o.2) o) : fhW fhYM Γ 0 [(0, .ref 0), (1, .int v1)] [] σ := by
  unfold f_X12_speaker at h
  refine fhW.blk fhPM fhLL hΓ [(.iload_n 1, 0), (.i2l, 0), (.lconst 0, 0), (.lconst 1, 0)] (pc' := 4) (lv' := [(0, .ref 0), (1, .int v1)]) (st' := [.long (1 : Int64), .long (0 : Int64), .long (Int32.toInt64 v1)]) (σ' := σ) (by decide +kernel) rfl rfl rfl ?_
  refine fhW.calls hΓ msX12_isIn ml_12_305 (av := [.long (Int32.toInt64 v1), .long (0 : Int64), .long (1 : Int64)]) (rest := []) (r := (some (.int (fhb (f_X12_isIn (Int32.toInt64 v1) (0 : Int64) (1 : Int64) σ))))) (σ' := σ) (T_X12_isIn (E := fhEn Γ) (d := fhD Γ - 1) (by omega) (Int32.toInt64 v1) (0 : Int64) (1 : Int64) σ) (by omega) (by decide +kernel) rfl (Nat.le_of_ble_eq_true rfl) rfl ?_
  show fhW fhYM Γ 7 [(0, .ref 0), (1, .int v1)] [.int (fhb (f_X12_isIn (Int32.toInt64 v1) (0 : Int64) (1 : Int64) σ))] σ
  refine fhW.b_ne hΓ (tgt := 12) (show fhbk _ _ (.ifCond .ne (5)) _ = true by decide +kernel) (fun hc => ?_) (fun hc => ?_)
  · rw [if_pos hc] at h
    refine fhW.blk fhPM fhLL hΓ [(.iconst (-1), -1), (.istore_n 2, 0), (.iconst (-1), -1), (.istore_n 3, 0), (.aload_n 0, 0)] (pc' := 17) (lv' := [(3, .int (-1 : Int32)), (2, .int (-1 : Int32)), (0, .ref 0), (1, .int v1)]) (st' := [.ref 0]) (σ' := σ) (by decide +kernel) rfl rfl rfl ?_
    obtain ⟨q1, hb2, h⟩ := Option.bind_eq_some_iff.mp h
    refine fhW.callv hΓ mvX12_laysKnowing ml_12_490 (t := 0) (ci := 12) (av := []) (rest := []) (r := none) (σ' := q1) (T_X12_laysKnowing (E := fhEn Γ) (d := fhD Γ - 1) (by omega) σ hb2) (by omega) (by decide +kernel) rfl rfl rfl (Nat.le_of_ble_eq_true rfl) rfl ?_
    show fhW fhYM Γ 20 [(3, .int (-1 : Int32)), (2, .int (-1 : Int32)), (0, .ref 0), (1, .int v1)] [] q1
    refine fhW.blk fhPM fhLL hΓ [(.iconst 0, 0), (.istore 4, 0)] (pc' := 23) (lv' := [(4, .int (0 : Int32)), (3, .int (-1 : Int32)), (2, .int (-1 : Int32)), (0, .ref 0), (1, .int v1)]) (st' := []) (σ' := q1) (by decide +kernel) rfl rfl rfl ?_
    refine fhW.sub (lv' := [(0, .ref 0), (1, .int v1), (2, .int (-1 : Int32)), (3, .int (-1 : Int32)), (4, .int (0 : Int32))]) [3, 4, 2, 1, 0] rfl ?_
    exact fhlp_ok (W := (fun x => fhW fhYM Γ 23 [(0, .ref 0), (1, .int v1), (2, .int x.1), (3, .int x.2.1), (4, .int x.2.2)] [] q1)) (B := (fun o => fhRet Γ (some (.int o.1)) o.2)) (fun x o h hk => L_X12_speaker_23 hΓ hd v1 x.1 x.2.1 x.2.2 q1 o h hk) ((-1 : Int32), (-1 : Int32), (0 : Int32)) _ h hk
  · rw [if_neg hc] at h
    refine fhW.blk fhPM fhLL hΓ [(.iconst (-1), -1)] (pc' := 11) (lv' := [(0, .ref 0), (1, .int v1)]) (st' := [.int (-1 : Int32)]) (σ' := σ) (by decide +kernel) rfl rfl rfl ?_
    have e9 := Option.some.inj h
    subst e9
    exact fhW.iret hΓ (by decide +kernel) hk
set_option maxRecDepth 100000 in
theorem T_X12_speaker {E : fhE} {d : Nat} (hd : 3 ≤ d) (v1 : Int32)  (σ : fhM) {o : Int32 × fhM} (h : f_X12_speaker v1 σ = some o) : fhC fhYM E d miX12_speaker [.ref 0, .int v1] σ (some (.int o.1)) o.2 := by
  refine fhC.of (y := yX12_speaker) (cc := cX12_speaker) (nL := 6) (ret := (some .int)) 12 rfl (by decide +kernel) (Nat.le_of_ble_eq_true rfl) ?_
  intro Γ hΓ hR hD hEn
  subst hD; subst hEn
  exact L_X12_speaker_E hΓ hd v1  σ _ h hR
