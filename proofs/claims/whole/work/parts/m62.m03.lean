set_option maxRecDepth 100000 in
set_option maxHeartbeats 4000000 in
theorem L_X12_markMany_E {Γ : fhX} (hΓ : fhOk fhYM 12 cX12_markMany 1 (some .int) Γ) (hd : 0 ≤ fhD Γ)   (σ : fhM) (o : Int32) (h : f_X12_markMany σ = o) (hk : (fun o => fhRet Γ (some (.int o)) σ) o) : fhW fhYM Γ 0 [(0, .ref 0)] [] σ := by
  unfold f_X12_markMany at h
  refine fhW.blk fhPM fhLL hΓ [(.aload_n 0, 0), (.getfield 99, 0), (.iconst 5, 5), (.iaload, 0)] (pc' := 6) (lv' := [(0, .ref 0)]) (st' := [.int (σ.1 29 5)]) (σ' := σ) (by decide +kernel) rfl rfl rfl ?_
  subst h
  exact fhW.iret hΓ (by decide +kernel) hk
set_option maxRecDepth 100000 in
theorem T_X12_markMany {E : fhE} {d : Nat} (hd : 0 ≤ d)   (σ : fhM) : fhC fhYM E d miX12_markMany [.ref 0] σ (some (.int (f_X12_markMany σ))) σ := by
  refine fhC.of (y := yX12_markMany) (cc := cX12_markMany) (nL := 1) (ret := (some .int)) 12 rfl (by decide +kernel) (Nat.le_of_ble_eq_true rfl) ?_
  intro Γ hΓ hR hD hEn
  subst hD; subst hEn
  exact L_X12_markMany_E hΓ hd   σ _ rfl hR
set_option maxRecDepth 100000 in
set_option maxHeartbeats 4000000 in
theorem L_X12_qOf_E {Γ : fhX} (hΓ : fhOk fhYM 12 cX12_qOf 5 (some .long) Γ) (hd : 2 ≤ fhD Γ) (v1 : Int32) (v2 : Int64) (v4 : Int32)  (σ : fhM) (o : Int64) (h : f_X12_qOf v1 v2 v4 σ = some o) (hk : (fun o => fhRet Γ (some (.long o)) σ) o) : fhW fhYM Γ 0 [(0, .ref 0), (1, .int v1), (2, .long v2), (4, .int v4)] [] σ := by
  unfold f_X12_qOf at h
  refine fhW.blk fhPM fhLL hΓ [(.iload_n 1, 0)] (pc' := 1) (lv' := [(0, .ref 0), (1, .int v1), (2, .long v2), (4, .int v4)]) (st' := [.int v1]) (σ' := σ) (by decide +kernel) rfl rfl rfl ?_
  refine fhW.lsw hΓ (dflt := 62) (ps := #[(0, 27), (1, 34)]) (len := 27) (td := 63) [(0, 28), (1, 35)] (by decide +kernel) ?_
  refine fhsw_c (fun hc => ?_) (fun hc => ?_)
  · rw [if_pos hc] at h
    refine fhW.blk fhPM fhLL hΓ [(.aload_n 0, 0), (.lload_n 2, 0)] (pc' := 30) (lv' := [(0, .ref 0), (1, .int v1), (2, .long v2), (4, .int v4)]) (st' := [.long v2, .ref 0]) (σ' := σ) (by decide +kernel) rfl rfl rfl ?_
    obtain ⟨q1, hb1, h⟩ := Option.bind_eq_some_iff.mp h
    refine fhW.callv hΓ mvX12_countOf ml_12_387 (t := 0) (ci := 12) (av := [.long v2]) (rest := []) (r := (some (.int q1))) (σ' := σ) (T_X12_countOf (E := fhEn Γ) (d := fhD Γ - 1) (by omega) v2 σ hb1) (by omega) (by decide +kernel) rfl rfl rfl (Nat.le_of_ble_eq_true rfl) rfl ?_
    show fhW fhYM Γ 33 [(0, .ref 0), (1, .int v1), (2, .long v2), (4, .int v4)] [.int q1] σ
    refine fhW.blk fhPM fhLL hΓ [(.i2l, 0)] (pc' := 34) (lv' := [(0, .ref 0), (1, .int v1), (2, .long v2), (4, .int v4)]) (st' := [.long (Int32.toInt64 q1)]) (σ' := σ) (by decide +kernel) rfl rfl rfl ?_
    have e9 := Option.some.inj h
    subst e9
    exact fhW.lret hΓ (by decide +kernel) hk
  rw [if_neg hc] at h
  refine fhsw_c (fun hc => ?_) (fun hc => ?_)
  · rw [if_pos hc] at h
    refine fhW.blk fhPM fhLL hΓ [(.aload_n 0, 0), (.lload_n 2, 0)] (pc' := 37) (lv' := [(0, .ref 0), (1, .int v1), (2, .long v2), (4, .int v4)]) (st' := [.long v2, .ref 0]) (σ' := σ) (by decide +kernel) rfl rfl rfl ?_
    refine fhW.callv hΓ mvX12_isGuest ml_12_505 (t := 0) (ci := 12) (av := [.long v2]) (rest := []) (r := (some (.int (fhb (f_X12_isGuest v2 σ))))) (σ' := σ) (T_X12_isGuest (E := fhEn Γ) (d := fhD Γ - 1) (by omega) v2 σ) (by omega) (by decide +kernel) rfl rfl rfl (Nat.le_of_ble_eq_true rfl) rfl ?_
    show fhW fhYM Γ 40 [(0, .ref 0), (1, .int v1), (2, .long v2), (4, .int v4)] [.int (fhb (f_X12_isGuest v2 σ))] σ
    refine fhW.b_eq hΓ (tgt := 61) (show fhbk _ _ (.ifCond .eq (21)) _ = true by decide +kernel) (fun hc => ?_) (fun hc => ?_)
    · rw [if_neg hc] at h
      refine fhW.blk fhPM fhLL hΓ [(.lconst 0, 0)] (pc' := 62) (lv' := [(0, .ref 0), (1, .int v1), (2, .long v2), (4, .int v4)]) (st' := [.long (0 : Int64)]) (σ' := σ) (by decide +kernel) rfl rfl rfl ?_
      have e9 := Option.some.inj h
      subst e9
      exact fhW.lret hΓ (by decide +kernel) hk
    · rw [if_pos hc] at h
      obtain ⟨hg1, h⟩ := fhif h
      refine fhW.blk fhPM fhLL hΓ [(.aload_n 0, 0), (.getfield 109, 0), (.iconst 5, 5), (.iload 4, 0), (.iadd, 0), (.iaload, 0), (.lload_n 2, 0), (.l2i, 0), (.ishr, 0), (.i2l, 0), (.lconst 1, 0), (.land, 0)] (pc' := 58) (lv' := [(0, .ref 0), (1, .int v1), (2, .long v2), (4, .int v4)]) (st' := [.long ((Int32.toInt64 ((σ.1 32 (fhix ((5 : Int32) + v4))) >>> ((Int64.toInt32 v2) &&& 31))) &&& (1 : Int64))]) (σ' := σ) (by decide +kernel) rfl rfl hg1 ?_
      refine fhW.goto hΓ (off := 4) (tgt := 62) (by decide +kernel) ?_
      have e9 := Option.some.inj h
      subst e9
      exact fhW.lret hΓ (by decide +kernel) hk
  rw [if_neg hc] at h
  refine fhsw_n ?_
  refine fhW.blk fhPM fhLL hΓ [(.lload_n 2, 0), (.lconst 0, 0), (.aload_n 0, 0)] (pc' := 66) (lv' := [(0, .ref 0), (1, .int v1), (2, .long v2), (4, .int v4)]) (st' := [.ref 0, .long (0 : Int64), .long v2]) (σ' := σ) (by decide +kernel) rfl rfl rfl ?_
  refine fhW.callv hΓ mvX12_markMany ml_12_426 (t := 0) (ci := 12) (av := []) (rest := [.long (0 : Int64), .long v2]) (r := (some (.int (f_X12_markMany σ)))) (σ' := σ) (T_X12_markMany (E := fhEn Γ) (d := fhD Γ - 1) (by omega) σ) (by omega) (by decide +kernel) rfl rfl rfl (Nat.le_of_ble_eq_true rfl) rfl ?_
  show fhW fhYM Γ 69 [(0, .ref 0), (1, .int v1), (2, .long v2), (4, .int v4)] [.int (f_X12_markMany σ), .long (0 : Int64), .long v2] σ
  refine fhW.blk fhPM fhLL hΓ [(.iconst 1, 1), (.isub, 0), (.i2l, 0)] (pc' := 72) (lv' := [(0, .ref 0), (1, .int v1), (2, .long v2), (4, .int v4)]) (st' := [.long (Int32.toInt64 ((f_X12_markMany σ) - (1 : Int32))), .long (0 : Int64), .long v2]) (σ' := σ) (by decide +kernel) rfl rfl rfl ?_
  refine fhW.calls hΓ msX12_isIn ml_12_305 (av := [.long v2, .long (0 : Int64), .long (Int32.toInt64 ((f_X12_markMany σ) - (1 : Int32)))]) (rest := []) (r := (some (.int (fhb (f_X12_isIn v2 (0 : Int64) (Int32.toInt64 ((f_X12_markMany σ) - (1 : Int32))) σ))))) (σ' := σ) (T_X12_isIn (E := fhEn Γ) (d := fhD Γ - 1) (by omega) v2 (0 : Int64) (Int32.toInt64 ((f_X12_markMany σ) - (1 : Int32))) σ) (by omega) (by decide +kernel) rfl (Nat.le_of_ble_eq_true rfl) rfl ?_
  show fhW fhYM Γ 75 [(0, .ref 0), (1, .int v1), (2, .long v2), (4, .int v4)] [.int (fhb (f_X12_isIn v2 (0 : Int64) (Int32.toInt64 ((f_X12_markMany σ) - (1 : Int32))) σ))] σ
  refine fhW.b_eq hΓ (tgt := 94) (show fhbk _ _ (.ifCond .eq (19)) _ = true by decide +kernel) (fun hc => ?_) (fun hc => ?_)
  · rw [if_neg hc] at h
    refine fhW.blk fhPM fhLL hΓ [(.lconst 0, 0)] (pc' := 95) (lv' := [(0, .ref 0), (1, .int v1), (2, .long v2), (4, .int v4)]) (st' := [.long (0 : Int64)]) (σ' := σ) (by decide +kernel) rfl rfl rfl ?_
    have e9 := Option.some.inj h
    subst e9
    exact fhW.lret hΓ (by decide +kernel) hk
  · rw [if_pos hc] at h
    obtain ⟨hg2, h⟩ := fhif h
    refine fhW.blk fhPM fhLL hΓ [(.aload_n 0, 0), (.getfield 159, 0), (.iload 4, 0), (.iaload, 0), (.lload_n 2, 0), (.l2i, 0), (.ishr, 0), (.i2l, 0), (.lconst 1, 0), (.land, 0)] (pc' := 91) (lv' := [(0, .ref 0), (1, .int v1), (2, .long v2), (4, .int v4)]) (st' := [.long ((Int32.toInt64 ((σ.1 48 (fhix v4)) >>> ((Int64.toInt32 v2) &&& 31))) &&& (1 : Int64))]) (σ' := σ) (by decide +kernel) rfl rfl hg2 ?_
    refine fhW.goto hΓ (off := 4) (tgt := 95) (by decide +kernel) ?_
    have e9 := Option.some.inj h
    subst e9
    exact fhW.lret hΓ (by decide +kernel) hk
set_option maxRecDepth 100000 in
theorem T_X12_qOf {E : fhE} {d : Nat} (hd : 2 ≤ d) (v1 : Int32) (v2 : Int64) (v4 : Int32)  (σ : fhM) {o : Int64} (h : f_X12_qOf v1 v2 v4 σ = some o) : fhC fhYM E d miX12_qOf [.ref 0, .int v1, .long v2, .int v4] σ (some (.long o)) σ := by
  refine fhC.of (y := yX12_qOf) (cc := cX12_qOf) (nL := 5) (ret := (some .long)) 12 rfl (by decide +kernel) (Nat.le_of_ble_eq_true rfl) ?_
  intro Γ hΓ hR hD hEn
  subst hD; subst hEn
  exact L_X12_qOf_E hΓ hd v1 v2 v4  σ _ h hR
set_option maxRecDepth 100000 in
set_option maxHeartbeats 4000000 in
theorem L_X12_qClip_E {Γ : fhX} (hΓ : fhOk fhYM 12 cX12_qClip 2 (some .long) Γ) (hd : 0 ≤ fhD Γ) (v0 : Int64)  (σ : fhM) (o : Int64) (h : f_X12_qClip v0 σ = o) (hk : (fun o => fhRet Γ (some (.long o)) σ) o) : fhW fhYM Γ 0 [(0, .long v0)] [] σ := by
  unfold f_X12_qClip at h
  refine fhW.blk fhPM fhLL hΓ [(.lload_n 0, 0), (.ldc2_w 647, 0), (.lcmp, 0)] (pc' := 5) (lv' := [(0, .long v0)]) (st' := [.int (lg_cmp v0 (1000000 : Int64))]) (σ' := σ) (by decide +kernel) rfl rfl rfl ?_
  refine fhW.z_le hΓ (tgt := 14) (show fhbk _ _ (.ifCond .le (9)) _ = true by decide +kernel) (fun hc => ?_) (fun hc => ?_)
  · rw [if_pos hc] at h
    refine fhW.blk fhPM fhLL hΓ [(.lload_n 0, 0), (.ldc2_w 649, 0), (.lcmp, 0)] (pc' := 19) (lv' := [(0, .long v0)]) (st' := [.int (lg_cmp v0 (-1000000 : Int64))]) (σ' := σ) (by decide +kernel) rfl rfl rfl ?_
    refine fhW.z_ge hΓ (tgt := 28) (show fhbk _ _ (.ifCond .ge (9)) _ = true by decide +kernel) (fun hc => ?_) (fun hc => ?_)
    · rw [if_pos hc] at h
      refine fhW.blk fhPM fhLL hΓ [(.lload_n 0, 0)] (pc' := 29) (lv' := [(0, .long v0)]) (st' := [.long v0]) (σ' := σ) (by decide +kernel) rfl rfl rfl ?_
      subst h
      exact fhW.lret hΓ (by decide +kernel) hk
    · rw [if_neg hc] at h
      refine fhW.blk fhPM fhLL hΓ [(.ldc2_w 649, 0)] (pc' := 25) (lv' := [(0, .long v0)]) (st' := [.long (-1000000 : Int64)]) (σ' := σ) (by decide +kernel) rfl rfl rfl ?_
      refine fhW.goto hΓ (off := 4) (tgt := 29) (by decide +kernel) ?_
      subst h
      exact fhW.lret hΓ (by decide +kernel) hk
  · rw [if_neg hc] at h
    refine fhW.blk fhPM fhLL hΓ [(.ldc2_w 647, 0)] (pc' := 11) (lv' := [(0, .long v0)]) (st' := [.long (1000000 : Int64)]) (σ' := σ) (by decide +kernel) rfl rfl rfl ?_
    refine fhW.goto hΓ (off := 18) (tgt := 29) (by decide +kernel) ?_
    subst h
    exact fhW.lret hΓ (by decide +kernel) hk
set_option maxRecDepth 100000 in
theorem T_X12_qClip {E : fhE} {d : Nat} (hd : 0 ≤ d) (v0 : Int64)  (σ : fhM) : fhC fhYM E d miX12_qClip [.long v0] σ (some (.long (f_X12_qClip v0 σ))) σ := by
  refine fhC.of (y := yX12_qClip) (cc := cX12_qClip) (nL := 2) (ret := (some .long)) 12 rfl (by decide +kernel) (Nat.le_of_ble_eq_true rfl) ?_
  intro Γ hΓ hR hD hEn
  subst hD; subst hEn
  exact L_X12_qClip_E hΓ hd v0  σ _ rfl hR
set_option maxRecDepth 100000 in
set_option maxHeartbeats 4000000 in
theorem L_X12_markOf_5 {Γ : fhX} (hΓ : fhOk fhYM 12 cX12_markOf 5 (some .int) Γ) (hd : 1 ≤ fhD Γ) (v2 : Int32) (v3 : Int32) (v4 : Int32)  (σ : fhM) (o : (Int32 × Int32) ⊕ (Int32)) (h : f_X12_markOf_5 v2 v3 v4 σ = some o) (hk : (fhK (fun x => fhW fhYM Γ 5 [(0, .ref 0), (2, .int v2), (3, .int x.1), (4, .int x.2)] [] σ) (fun o => fhRet Γ (some (.int o)) σ)) o) : fhW fhYM Γ 5 [(0, .ref 0), (2, .int v2), (3, .int v3), (4, .int v4)] [] σ := by
  unfold f_X12_markOf_5 at h
  refine fhW.blk fhPM fhLL hΓ [(.iload 4, 0), (.iload_n 2, 0)] (pc' := 8) (lv' := [(0, .ref 0), (2, .int v2), (3, .int v3), (4, .int v4)]) (st' := [.int v2, .int v4]) (σ' := σ) (by decide +kernel) rfl rfl rfl ?_
  refine fhW.i_ge hΓ (tgt := 24) (show fhbk _ _ (.if_icmp .ge (16)) _ = true by decide +kernel) (fun hc => ?_) (fun hc => ?_)
  · rw [if_pos hc] at h
    refine fhW.blk fhPM fhLL hΓ [(.iload_n 3, 0), (.aload_n 0, 0)] (pc' := 26) (lv' := [(0, .ref 0), (2, .int v2), (3, .int v3), (4, .int v4)]) (st' := [.ref 0, .int v3]) (σ' := σ) (by decide +kernel) rfl rfl rfl ?_
    refine fhW.callv hΓ mvX12_markMany ml_12_426 (t := 0) (ci := 12) (av := []) (rest := [.int v3]) (r := (some (.int (f_X12_markMany σ)))) (σ' := σ) (T_X12_markMany (E := fhEn Γ) (d := fhD Γ - 1) (by omega) σ) (by omega) (by decide +kernel) rfl rfl rfl (Nat.le_of_ble_eq_true rfl) rfl ?_
    show fhW fhYM Γ 29 [(0, .ref 0), (2, .int v2), (3, .int v3), (4, .int v4)] [.int (f_X12_markMany σ), .int v3] σ
    obtain ⟨hg1, h⟩ := fhif h
    refine fhW.blk fhPM fhLL hΓ [(.irem, 0)] (pc' := 30) (lv' := [(0, .ref 0), (2, .int v2), (3, .int v3), (4, .int v4)]) (st' := [.int (fhrem v3 (f_X12_markMany σ))]) (σ' := σ) (by decide +kernel) rfl rfl hg1 ?_
    have e9 := Option.some.inj h
    subst e9
    exact fhW.iret hΓ (by decide +kernel) hk
  · rw [if_neg hc] at h
    refine fhW.blk fhPM fhLL hΓ [(.iload_n 3, 0), (.aload_n 0, 0)] (pc' := 13) (lv' := [(0, .ref 0), (2, .int v2), (3, .int v3), (4, .int v4)]) (st' := [.ref 0, .int v3]) (σ' := σ) (by decide +kernel) rfl rfl rfl ?_
    refine fhW.callv hΓ mvX12_markMany ml_12_426 (t := 0) (ci := 12) (av := []) (rest := [.int v3]) (r := (some (.int (f_X12_markMany σ)))) (σ' := σ) (T_X12_markMany (E := fhEn Γ) (d := fhD Γ - 1) (by omega) σ) (by omega) (by decide +kernel) rfl rfl rfl (Nat.le_of_ble_eq_true rfl) rfl ?_
    show fhW fhYM Γ 16 [(0, .ref 0), (2, .int v2), (3, .int v3), (4, .int v4)] [.int (f_X12_markMany σ), .int v3] σ
    obtain ⟨hg2, h⟩ := fhif h
    refine fhW.blk fhPM fhLL hΓ [(.idiv, 0), (.istore_n 3, 0), (.iinc 4 1, 1)] (pc' := 21) (lv' := [(4, .int (v4 + (1 : Int32))), (3, .int (v3 / (f_X12_markMany σ))), (0, .ref 0), (2, .int v2)]) (st' := []) (σ' := σ) (by decide +kernel) rfl rfl hg2 ?_
    refine fhW.goto hΓ (off := (-16)) (tgt := 5) (by decide +kernel) ?_
    refine fhW.sub (lv' := [(0, .ref 0), (2, .int v2), (3, .int (v3 / (f_X12_markMany σ))), (4, .int (v4 + (1 : Int32)))]) [2, 3, 1, 0] rfl ?_
    have e9 := Option.some.inj h
    subst e9
    exact hk
set_option maxRecDepth 100000 in
set_option maxHeartbeats 4000000 in
theorem L_X12_markOf_E {Γ : fhX} (hΓ : fhOk fhYM 12 cX12_markOf 5 (some .int) Γ) (hd : 1 ≤ fhD Γ) (v1 : Int32) (v2 : Int32)  (σ : fhM) (o : Int32) (h : f_X12_markOf v1 v2 σ = some o) (hk : (fun o => fhRet Γ (some (.int o)) σ) o) : fhW fhYM Γ 0 [(0, .ref 0), (1, .int v1), (2, .int v2)] [] σ := by
  unfold f_X12_markOf at h
  refine fhW.blk fhPM fhLL hΓ [(.iload_n 1, 0), (.istore_n 3, 0), (.iconst 0, 0), (.istore 4, 0)] (pc' := 5) (lv' := [(4, .int (0 : Int32)), (3, .int v1), (0, .ref 0), (1, .int v1), (2, .int v2)]) (st' := []) (σ' := σ) (by decide +kernel) rfl rfl rfl ?_
  refine fhW.sub (lv' := [(0, .ref 0), (2, .int v2), (3, .int v1), (4, .int (0 : Int32))]) [2, 4, 1, 0] rfl ?_
  exact fhlp_ok (W := (fun x => fhW fhYM Γ 5 [(0, .ref 0), (2, .int v2), (3, .int x.1), (4, .int x.2)] [] σ)) (B := (fun o => fhRet Γ (some (.int o)) σ)) (fun x o h hk => L_X12_markOf_5 hΓ hd v2 x.1 x.2 σ o h hk) (v1, (0 : Int32)) _ h hk
set_option maxRecDepth 100000 in
theorem T_X12_markOf {E : fhE} {d : Nat} (hd : 1 ≤ d) (v1 : Int32) (v2 : Int32)  (σ : fhM) {o : Int32} (h : f_X12_markOf v1 v2 σ = some o) : fhC fhYM E d miX12_markOf [.ref 0, .int v1, .int v2] σ (some (.int o)) σ := by
  refine fhC.of (y := yX12_markOf) (cc := cX12_markOf) (nL := 5) (ret := (some .int)) 12 rfl (by decide +kernel) (Nat.le_of_ble_eq_true rfl) ?_
  intro Γ hΓ hR hD hEn
  subst hD; subst hEn
  exact L_X12_markOf_E hΓ hd v1 v2  σ _ h hR
set_option maxRecDepth 100000 in
set_option maxHeartbeats 4000000 in
theorem L_X12_qPartOf_E {Γ : fhX} (hΓ : fhOk fhYM 12 cX12_qPartOf 3 (some .long) Γ) (hd : 2 ≤ fhD Γ) (v1 : Int32) (v2 : Int32)  (σ : fhM) (o : Int64) (h : f_X12_qPartOf v1 v2 σ = some o) (hk : (fun o => fhRet Γ (some (.long o)) σ) o) : fhW fhYM Γ 0 [(0, .ref 0), (1, .int v1), (2, .int v2)] [] σ := by
  unfold f_X12_qPartOf at h
  refine fhW.blk fhPM fhLL hΓ [(.iload_n 1, 0), (.bipush 12, 12)] (pc' := 3) (lv' := [(0, .ref 0), (1, .int v1), (2, .int v2)]) (st' := [.int (12 : Int32), .int v1]) (σ' := σ) (by decide +kernel) rfl rfl rfl ?_
  refine fhW.i_lt hΓ (tgt := 17) (show fhbk _ _ (.if_icmp .lt (14)) _ = true by decide +kernel) (fun hc => ?_) (fun hc => ?_)
  · rw [if_pos hc] at h
    refine fhW.blk fhPM fhLL hΓ [(.iload_n 1, 0)] (pc' := 18) (lv' := [(0, .ref 0), (1, .int v1), (2, .int v2)]) (st' := [.int v1]) (σ' := σ) (by decide +kernel) rfl rfl rfl ?_
    refine fhW.tsw hΓ (dflt := 124) (lo := 0) (hi := 7) (offs := #[46, 52, 58, 64, 70, 76, 92, 103]) (len := 46) (td := 142) [(0, 64), (1, 70), (2, 76), (3, 82), (4, 88), (5, 94), (6, 110), (7, 121)] (by decide +kernel) ?_
    refine fhsw_c (fun hc => ?_) (fun hc => ?_)
    · rw [if_pos hc] at h
      refine fhW.blk fhPM fhLL hΓ [(.aload_n 0, 0)] (pc' := 65) (lv' := [(0, .ref 0), (1, .int v1), (2, .int v2)]) (st' := [.ref 0]) (σ' := σ) (by decide +kernel) rfl rfl rfl ?_
      obtain ⟨q1, hb1, h⟩ := Option.bind_eq_some_iff.mp h
      refine fhW.callv hΓ mvX12_rowSum ml_12_666 (t := 0) (ci := 12) (av := []) (rest := []) (r := (some (.int q1))) (σ' := σ) (T_X12_rowSum (E := fhEn Γ) (d := fhD Γ - 1) (by omega) σ hb1) (by omega) (by decide +kernel) rfl rfl rfl (Nat.le_of_ble_eq_true rfl) rfl ?_
      show fhW fhYM Γ 68 [(0, .ref 0), (1, .int v1), (2, .int v2)] [.int q1] σ
      refine fhW.blk fhPM fhLL hΓ [(.i2l, 0)] (pc' := 69) (lv' := [(0, .ref 0), (1, .int v1), (2, .int v2)]) (st' := [.long (Int32.toInt64 q1)]) (σ' := σ) (by decide +kernel) rfl rfl rfl ?_
      have e9 := Option.some.inj h
      subst e9
      exact fhW.lret hΓ (by decide +kernel) hk
    rw [if_neg hc] at h
    refine fhsw_c (fun hc => ?_) (fun hc => ?_)
    · rw [if_pos hc] at h
      refine fhW.blk fhPM fhLL hΓ [(.aload_n 0, 0)] (pc' := 71) (lv' := [(0, .ref 0), (1, .int v1), (2, .int v2)]) (st' := [.ref 0]) (σ' := σ) (by decide +kernel) rfl rfl rfl ?_
      obtain ⟨q2, hb2, h⟩ := Option.bind_eq_some_iff.mp h
      refine fhW.callv hΓ mvX12_rowTop ml_12_384 (t := 0) (ci := 12) (av := []) (rest := []) (r := (some (.int q2))) (σ' := σ) (T_X12_rowTop (E := fhEn Γ) (d := fhD Γ - 1) (by omega) σ hb2) (by omega) (by decide +kernel) rfl rfl rfl (Nat.le_of_ble_eq_true rfl) rfl ?_
      show fhW fhYM Γ 74 [(0, .ref 0), (1, .int v1), (2, .int v2)] [.int q2] σ
      refine fhW.blk fhPM fhLL hΓ [(.i2l, 0)] (pc' := 75) (lv' := [(0, .ref 0), (1, .int v1), (2, .int v2)]) (st' := [.long (Int32.toInt64 q2)]) (σ' := σ) (by decide +kernel) rfl rfl rfl ?_
      have e9 := Option.some.inj h
      subst e9
      exact fhW.lret hΓ (by decide +kernel) hk
    rw [if_neg hc] at h
    refine fhsw_c (fun hc => ?_) (fun hc => ?_)
    · rw [if_pos hc] at h
      refine fhW.blk fhPM fhLL hΓ [(.aload_n 0, 0)] (pc' := 77) (lv' := [(0, .ref 0), (1, .int v1), (2, .int v2)]) (st' := [.ref 0]) (σ' := σ) (by decide +kernel) rfl rfl rfl ?_
      obtain ⟨q3, hb3, h⟩ := Option.bind_eq_some_iff.mp h
      refine fhW.callv hΓ mvX12_rowLow ml_12_669 (t := 0) (ci := 12) (av := []) (rest := []) (r := (some (.int q3))) (σ' := σ) (T_X12_rowLow (E := fhEn Γ) (d := fhD Γ - 1) (by omega) σ hb3) (by omega) (by decide +kernel) rfl rfl rfl (Nat.le_of_ble_eq_true rfl) rfl ?_
      show fhW fhYM Γ 80 [(0, .ref 0), (1, .int v1), (2, .int v2)] [.int q3] σ
      refine fhW.blk fhPM fhLL hΓ [(.i2l, 0)] (pc' := 81) (lv' := [(0, .ref 0), (1, .int v1), (2, .int v2)]) (st' := [.long (Int32.toInt64 q3)]) (σ' := σ) (by decide +kernel) rfl rfl rfl ?_
      have e9 := Option.some.inj h
      subst e9
      exact fhW.lret hΓ (by decide +kernel) hk
    rw [if_neg hc] at h
    refine fhsw_c (fun hc => ?_) (fun hc => ?_)
    · rw [if_pos hc] at h
      refine fhW.blk fhPM fhLL hΓ [(.aload_n 0, 0)] (pc' := 83) (lv' := [(0, .ref 0), (1, .int v1), (2, .int v2)]) (st' := [.ref 0]) (σ' := σ) (by decide +kernel) rfl rfl rfl ?_
      obtain ⟨q4, hb4, h⟩ := Option.bind_eq_some_iff.mp h
      refine fhW.callv hΓ mvX12_rowKinds ml_12_672 (t := 0) (ci := 12) (av := []) (rest := []) (r := (some (.int q4))) (σ' := σ) (T_X12_rowKinds (E := fhEn Γ) (d := fhD Γ - 1) (by omega) σ hb4) (by omega) (by decide +kernel) rfl rfl rfl (Nat.le_of_ble_eq_true rfl) rfl ?_
      show fhW fhYM Γ 86 [(0, .ref 0), (1, .int v1), (2, .int v2)] [.int q4] σ
      refine fhW.blk fhPM fhLL hΓ [(.i2l, 0)] (pc' := 87) (lv' := [(0, .ref 0), (1, .int v1), (2, .int v2)]) (st' := [.long (Int32.toInt64 q4)]) (σ' := σ) (by decide +kernel) rfl rfl rfl ?_
      have e9 := Option.some.inj h
      subst e9
      exact fhW.lret hΓ (by decide +kernel) hk
    rw [if_neg hc] at h
    refine fhsw_c (fun hc => ?_) (fun hc => ?_)
    · rw [if_pos hc] at h
      refine fhW.blk fhPM fhLL hΓ [(.aload_n 0, 0), (.getfield 675, 0), (.i2l, 0)] (pc' := 93) (lv' := [(0, .ref 0), (1, .int v1), (2, .int v2)]) (st' := [.long (Int32.toInt64 (σ.1 0 51))]) (σ' := σ) (by decide +kernel) rfl rfl rfl ?_
      have e9 := Option.some.inj h
      subst e9
      exact fhW.lret hΓ (by decide +kernel) hk
    rw [if_neg hc] at h
    refine fhsw_c (fun hc => ?_) (fun hc => ?_)
    · rw [if_pos hc] at h
      refine fhW.blk fhPM fhLL hΓ [(.aload_n 0, 0), (.aload_n 0, 0), (.getfield 147, 0), (.iconst 1, 1), (.iaload, 0), (.aload_n 0, 0), (.getfield 675, 0)] (pc' := 105) (lv' := [(0, .ref 0), (1, .int v1), (2, .int v2)]) (st' := [.int (σ.1 0 51), .int (σ.1 44 1), .ref 0]) (σ' := σ) (by decide +kernel) rfl rfl rfl ?_
      obtain ⟨q5, hb5, h⟩ := Option.bind_eq_some_iff.mp h
      refine fhW.callv hΓ mvX12_markOf ml_12_429 (t := 0) (ci := 12) (av := [.int (σ.1 44 1), .int (σ.1 0 51)]) (rest := []) (r := (some (.int q5))) (σ' := σ) (T_X12_markOf (E := fhEn Γ) (d := fhD Γ - 1) (by omega) (σ.1 44 1) (σ.1 0 51) σ hb5) (by omega) (by decide +kernel) rfl rfl rfl (Nat.le_of_ble_eq_true rfl) rfl ?_
      show fhW fhYM Γ 108 [(0, .ref 0), (1, .int v1), (2, .int v2)] [.int q5] σ
      refine fhW.blk fhPM fhLL hΓ [(.i2l, 0)] (pc' := 109) (lv' := [(0, .ref 0), (1, .int v1), (2, .int v2)]) (st' := [.long (Int32.toInt64 q5)]) (σ' := σ) (by decide +kernel) rfl rfl rfl ?_
      have e9 := Option.some.inj h
      subst e9
      exact fhW.lret hΓ (by decide +kernel) hk
    rw [if_neg hc] at h
    refine fhsw_c (fun hc => ?_) (fun hc => ?_)
    · rw [if_pos hc] at h
      obtain ⟨hg1, h⟩ := fhif h
      refine fhW.blk fhPM fhLL hΓ [(.aload_n 0, 0), (.getfield 156, 0), (.aload_n 0, 0), (.getfield 675, 0), (.iaload, 0), (.i2l, 0)] (pc' := 120) (lv' := [(0, .ref 0), (1, .int v1), (2, .int v2)]) (st' := [.long (Int32.toInt64 (σ.1 47 (fhix (σ.1 0 51))))]) (σ' := σ) (by decide +kernel) rfl rfl hg1 ?_
      have e9 := Option.some.inj h
      subst e9
      exact fhW.lret hΓ (by decide +kernel) hk
    rw [if_neg hc] at h
    refine fhsw_c (fun hc => ?_) (fun hc => ?_)
    · rw [if_pos hc] at h
      obtain ⟨hg2, h⟩ := fhif h
      refine fhW.blk fhPM fhLL hΓ [(.aload_n 0, 0), (.getfield 159, 0), (.aload_n 0, 0), (.getfield 675, 0), (.iaload, 0)] (pc' := 130) (lv' := [(0, .ref 0), (1, .int v1), (2, .int v2)]) (st' := [.int (σ.1 48 (fhix (σ.1 0 51)))]) (σ' := σ) (by decide +kernel) rfl rfl hg2 ?_
      refine fhW.calls hΓ msX12_isOne ml_12_460 (av := [.int (σ.1 48 (fhix (σ.1 0 51)))]) (rest := []) (r := (some (.int (fhb (f_X12_isOne (σ.1 48 (fhix (σ.1 0 51))) σ))))) (σ' := σ) (T_X12_isOne (E := fhEn Γ) (d := fhD Γ - 1) (by omega) (σ.1 48 (fhix (σ.1 0 51))) σ) (by omega) (by decide +kernel) rfl (Nat.le_of_ble_eq_true rfl) rfl ?_
      show fhW fhYM Γ 133 [(0, .ref 0), (1, .int v1), (2, .int v2)] [.int (fhb (f_X12_isOne (σ.1 48 (fhix (σ.1 0 51))) σ))] σ
      refine fhW.b_eq hΓ (tgt := 140) (show fhbk _ _ (.ifCond .eq (7)) _ = true by decide +kernel) (fun hc => ?_) (fun hc => ?_)
      · rw [if_neg hc] at h
        refine fhW.blk fhPM fhLL hΓ [(.lconst 0, 0)] (pc' := 141) (lv' := [(0, .ref 0), (1, .int v1), (2, .int v2)]) (st' := [.long (0 : Int64)]) (σ' := σ) (by decide +kernel) rfl rfl rfl ?_
        have e9 := Option.some.inj h
        subst e9
        exact fhW.lret hΓ (by decide +kernel) hk
      · rw [if_pos hc] at h
        refine fhW.blk fhPM fhLL hΓ [(.lconst 1, 0)] (pc' := 137) (lv' := [(0, .ref 0), (1, .int v1), (2, .int v2)]) (st' := [.long (1 : Int64)]) (σ' := σ) (by decide +kernel) rfl rfl rfl ?_
        refine fhW.goto hΓ (off := 4) (tgt := 141) (by decide +kernel) ?_
        have e9 := Option.some.inj h
        subst e9
        exact fhW.lret hΓ (by decide +kernel) hk
    rw [if_neg hc] at h
    refine fhsw_n ?_
    refine fhW.blk fhPM fhLL hΓ [(.aload_n 0, 0), (.getfield 147, 0), (.iconst 0, 0), (.iaload, 0), (.i2l, 0)] (pc' := 149) (lv' := [(0, .ref 0), (1, .int v1), (2, .int v2)]) (st' := [.long (Int32.toInt64 (σ.1 44 0))]) (σ' := σ) (by decide +kernel) rfl rfl rfl ?_
    have e9 := Option.some.inj h
    subst e9
    exact fhW.lret hΓ (by decide +kernel) hk
  · rw [if_neg hc] at h
    obtain ⟨hg3, h⟩ := fhif h
    refine fhW.blk fhPM fhLL hΓ [(.aload_n 0, 0), (.getfield 121, 0), (.iload_n 1, 0), (.bipush 12, 12), (.isub, 0), (.iaload, 0), (.i2l, 0)] (pc' := 16) (lv' := [(0, .ref 0), (1, .int v1), (2, .int v2)]) (st' := [.long (Int32.toInt64 (σ.1 36 (fhix (v1 - (12 : Int32)))))]) (σ' := σ) (by decide +kernel) rfl rfl hg3 ?_
    have e9 := Option.some.inj h
    subst e9
    exact fhW.lret hΓ (by decide +kernel) hk
set_option maxRecDepth 100000 in
theorem T_X12_qPartOf {E : fhE} {d : Nat} (hd : 2 ≤ d) (v1 : Int32) (v2 : Int32)  (σ : fhM) {o : Int64} (h : f_X12_qPartOf v1 v2 σ = some o) : fhC fhYM E d miX12_qPartOf [.ref 0, .int v1, .int v2] σ (some (.long o)) σ := by
  refine fhC.of (y := yX12_qPartOf) (cc := cX12_qPartOf) (nL := 3) (ret := (some .long)) 12 rfl (by decide +kernel) (Nat.le_of_ble_eq_true rfl) ?_
  intro Γ hΓ hR hD hEn
  subst hD; subst hEn
  exact L_X12_qPartOf_E hΓ hd v1 v2  σ _ h hR
set_option maxRecDepth 100000 in
set_option maxHeartbeats 4000000 in
theorem L_X12_qFloor_53 {Γ : fhX} (hΓ : fhOk fhYM 12 cX12_qFloor 6 (some .long) Γ) (hd : 0 ≤ fhD Γ) (v4 : Int64)  (σ : fhM) (o : Int64) (h : f_X12_qFloor_53 v4 σ = some o) (hk : (fun o => fhRet Γ (some (.long o)) σ) o) : fhW fhYM Γ 53 [(4, .long v4)] [] σ := by
  unfold f_X12_qFloor_53 at h
  refine fhW.blk fhPM fhLL hΓ [(.lload 4, 0)] (pc' := 55) (lv' := [(4, .long v4)]) (st' := [.long v4]) (σ' := σ) (by decide +kernel) rfl rfl rfl ?_
  have e9 := Option.some.inj h
  subst e9
  exact fhW.lret hΓ (by decide +kernel) hk
set_option maxRecDepth 100000 in
set_option maxHeartbeats 4000000 in
theorem L_X12_qFloor_43 {Γ : fhX} (hΓ : fhOk fhYM 12 cX12_qFloor 6 (some .long) Γ) (hd : 0 ≤ fhD Γ) (v4 : Int64) (s0 : Int32) (s1 : Int32)  (σ : fhM) (o : Int64) (h : f_X12_qFloor_43 v4 s0 s1 σ = some o) (hk : (fun o => fhRet Γ (some (.long o)) σ) o) : fhW fhYM Γ 43 [(4, .long v4)] [.int s0, .int s1] σ := by
  unfold f_X12_qFloor_43 at h
  refine fhW.i_eq hΓ (tgt := 53) (show fhbk _ _ (.if_icmp .eq (10)) _ = true by decide +kernel) (fun hc => ?_) (fun hc => ?_)
  · rw [if_pos hc] at h
    refine fhW.sub (lv' := [(4, .long v4)]) [0] rfl ?_
    exact L_X12_qFloor_53 hΓ hd v4 σ _ h hk
  · rw [if_neg hc] at h
    refine fhW.blk fhPM fhLL hΓ [(.lload 4, 0), (.lconst 1, 0), (.lsub, 0)] (pc' := 50) (lv' := [(4, .long v4)]) (st' := [.long (v4 - (1 : Int64))]) (σ' := σ) (by decide +kernel) rfl rfl rfl ?_
    refine fhW.goto hΓ (off := 5) (tgt := 55) (by decide +kernel) ?_
    have e9 := Option.some.inj h
    subst e9
    exact fhW.lret hΓ (by decide +kernel) hk
set_option maxRecDepth 100000 in
set_option maxHeartbeats 4000000 in
theorem L_X12_qFloor_32 {Γ : fhX} (hΓ : fhOk fhYM 12 cX12_qFloor 6 (some .long) Γ) (hd : 0 ≤ fhD Γ) (v2 : Int64) (v4 : Int64) (s0 : Int32)  (σ : fhM) (o : Int64) (h : f_X12_qFloor_32 v2 v4 s0 σ = some o) (hk : (fun o => fhRet Γ (some (.long o)) σ) o) : fhW fhYM Γ 32 [(2, .long v2), (4, .long v4)] [.int s0] σ := by
  unfold f_X12_qFloor_32 at h
  refine fhW.blk fhPM fhLL hΓ [(.lload_n 2, 0), (.lconst 0, 0), (.lcmp, 0)] (pc' := 35) (lv' := [(2, .long v2), (4, .long v4)]) (st' := [.int (lg_cmp v2 (0 : Int64)), .int s0]) (σ' := σ) (by decide +kernel) rfl rfl rfl ?_
  refine fhW.z_ge hΓ (tgt := 42) (show fhbk _ _ (.ifCond .ge (7)) _ = true by decide +kernel) (fun hc => ?_) (fun hc => ?_)
  · simp only [if_pos hc] at h
    refine fhW.blk fhPM fhLL hΓ [(.iconst 0, 0)] (pc' := 43) (lv' := [(2, .long v2), (4, .long v4)]) (st' := [.int (0 : Int32), .int s0]) (σ' := σ) (by decide +kernel) rfl rfl rfl ?_
    refine fhW.sub (lv' := [(4, .long v4)]) [1] rfl ?_
    exact L_X12_qFloor_43 hΓ hd v4 (0 : Int32) s0 σ _ h hk
  · simp only [if_neg hc] at h
    refine fhW.blk fhPM fhLL hΓ [(.iconst 1, 1)] (pc' := 39) (lv' := [(2, .long v2), (4, .long v4)]) (st' := [.int (1 : Int32), .int s0]) (σ' := σ) (by decide +kernel) rfl rfl rfl ?_
    refine fhW.goto hΓ (off := 4) (tgt := 43) (by decide +kernel) ?_
    refine fhW.sub (lv' := [(4, .long v4)]) [1] rfl ?_
    exact L_X12_qFloor_43 hΓ hd v4 (1 : Int32) s0 σ _ h hk
set_option maxRecDepth 100000 in
set_option maxHeartbeats 4000000 in
theorem L_X12_qFloor_E {Γ : fhX} (hΓ : fhOk fhYM 12 cX12_qFloor 6 (some .long) Γ) (hd : 0 ≤ fhD Γ) (v0 : Int64) (v2 : Int64)  (σ : fhM) (o : Int64) (h : f_X12_qFloor v0 v2 σ = some o) (hk : (fun o => fhRet Γ (some (.long o)) σ) o) : fhW fhYM Γ 0 [(0, .long v0), (2, .long v2)] [] σ := by
  unfold f_X12_qFloor at h
  refine fhW.blk fhPM fhLL hΓ [(.lload_n 2, 0), (.lconst 0, 0), (.lcmp, 0)] (pc' := 3) (lv' := [(0, .long v0), (2, .long v2)]) (st' := [.int (lg_cmp v2 (0 : Int64))]) (σ' := σ) (by decide +kernel) rfl rfl rfl ?_
  refine fhW.z_ne hΓ (tgt := 8) (show fhbk _ _ (.ifCond .ne (5)) _ = true by decide +kernel) (fun hc => ?_) (fun hc => ?_)
  · rw [if_neg hc] at h
    obtain ⟨hg1, h⟩ := fhif h
    refine fhW.blk fhPM fhLL hΓ [(.lload_n 0, 0), (.lload_n 2, 0), (.ldiv, 0), (.lstore 4, 0), (.lload_n 0, 0), (.lload_n 2, 0), (.lrem, 0), (.lconst 0, 0), (.lcmp, 0)] (pc' := 18) (lv' := [(4, .long (v0 / v2)), (0, .long v0), (2, .long v2)]) (st' := [.int (lg_cmp (fhreml v0 v2) (0 : Int64))]) (σ' := σ) (by decide +kernel) rfl rfl hg1 ?_
    refine fhW.z_eq hΓ (tgt := 53) (show fhbk _ _ (.ifCond .eq (35)) _ = true by decide +kernel) (fun hc => ?_) (fun hc => ?_)
    · rw [if_pos hc] at h
      refine fhW.sub (lv' := [(4, .long (v0 / v2))]) [0] rfl ?_
      exact L_X12_qFloor_53 hΓ hd (v0 / v2) σ _ h hk
    · rw [if_neg hc] at h
      refine fhW.blk fhPM fhLL hΓ [(.lload_n 0, 0), (.lconst 0, 0), (.lcmp, 0)] (pc' := 24) (lv' := [(4, .long (v0 / v2)), (0, .long v0), (2, .long v2)]) (st' := [.int (lg_cmp v0 (0 : Int64))]) (σ' := σ) (by decide +kernel) rfl rfl rfl ?_
      refine fhW.z_ge hΓ (tgt := 31) (show fhbk _ _ (.ifCond .ge (7)) _ = true by decide +kernel) (fun hc => ?_) (fun hc => ?_)
      · simp only [if_pos hc] at h
        refine fhW.blk fhPM fhLL hΓ [(.iconst 0, 0)] (pc' := 32) (lv' := [(4, .long (v0 / v2)), (0, .long v0), (2, .long v2)]) (st' := [.int (0 : Int32)]) (σ' := σ) (by decide +kernel) rfl rfl rfl ?_
        refine fhW.sub (lv' := [(2, .long v2), (4, .long (v0 / v2))]) [2, 0] rfl ?_
        exact L_X12_qFloor_32 hΓ hd v2 (v0 / v2) (0 : Int32) σ _ h hk
      · simp only [if_neg hc] at h
        refine fhW.blk fhPM fhLL hΓ [(.iconst 1, 1)] (pc' := 28) (lv' := [(4, .long (v0 / v2)), (0, .long v0), (2, .long v2)]) (st' := [.int (1 : Int32)]) (σ' := σ) (by decide +kernel) rfl rfl rfl ?_
        refine fhW.goto hΓ (off := 4) (tgt := 32) (by decide +kernel) ?_
        refine fhW.sub (lv' := [(2, .long v2), (4, .long (v0 / v2))]) [2, 0] rfl ?_
        exact L_X12_qFloor_32 hΓ hd v2 (v0 / v2) (1 : Int32) σ _ h hk
  · rw [if_pos hc] at h
    refine fhW.blk fhPM fhLL hΓ [(.lconst 0, 0)] (pc' := 7) (lv' := [(0, .long v0), (2, .long v2)]) (st' := [.long (0 : Int64)]) (σ' := σ) (by decide +kernel) rfl rfl rfl ?_
    have e9 := Option.some.inj h
    subst e9
    exact fhW.lret hΓ (by decide +kernel) hk
set_option maxRecDepth 100000 in
theorem T_X12_qFloor {E : fhE} {d : Nat} (hd : 0 ≤ d) (v0 : Int64) (v2 : Int64)  (σ : fhM) {o : Int64} (h : f_X12_qFloor v0 v2 σ = some o) : fhC fhYM E d miX12_qFloor [.long v0, .long v2] σ (some (.long o)) σ := by
  refine fhC.of (y := yX12_qFloor) (cc := cX12_qFloor) (nL := 6) (ret := (some .long)) 12 rfl (by decide +kernel) (Nat.le_of_ble_eq_true rfl) ?_
  intro Γ hΓ hR hD hEn
  subst hD; subst hEn
  exact L_X12_qFloor_E hΓ hd v0 v2  σ _ h hR
set_option maxRecDepth 100000 in
set_option maxHeartbeats 4000000 in
theorem L_X12_qJoins_270 {Γ : fhX} (hΓ : fhOk fhYM 12 cX12_qJoins 6 none Γ) (hd : 1 ≤ fhD Γ) (s0 : Int64)  (σ : fhM) (o : fhM) (h : f_X12_qJoins_270 s0 σ = some o) (hk : (fun o => fhRet Γ none o) o) : fhW fhYM Γ 270 [] [.long s0, .ref 0] σ := by
  unfold f_X12_qJoins_270 at h
  obtain ⟨q12, hb1, h⟩ := Option.bind_eq_some_iff.mp h
  refine fhW.callv hΓ mvX12_qPuts ml_12_658 (t := 0) (ci := 12) (av := [.long s0]) (rest := []) (r := none) (σ' := q12) (T_X12_qPuts (E := fhEn Γ) (d := fhD Γ - 1) (by omega) s0 σ hb1) (by omega) (by decide +kernel) rfl rfl rfl (Nat.le_of_ble_eq_true rfl) rfl ?_
  show fhW fhYM Γ 273 [] [] q12
  have e9 := Option.some.inj h
  subst e9
  exact fhW.vret hΓ (by decide +kernel) hk
set_option maxRecDepth 100000 in
set_option maxHeartbeats 4000000 in
theorem L_X12_qJoins_161 {Γ : fhX} (hΓ : fhOk fhYM 12 cX12_qJoins 6 none Γ) (hd : 1 ≤ fhD Γ) (s0 : Int64)  (σ : fhM) (o : fhM) (h : f_X12_qJoins_161 s0 σ = some o) (hk : (fun o => fhRet Γ none o) o) : fhW fhYM Γ 161 [] [.long s0, .ref 0] σ := by
  unfold f_X12_qJoins_161 at h
  obtain ⟨q7, hb2, h⟩ := Option.bind_eq_some_iff.mp h
  refine fhW.callv hΓ mvX12_qPuts ml_12_658 (t := 0) (ci := 12) (av := [.long s0]) (rest := []) (r := none) (σ' := q7) (T_X12_qPuts (E := fhEn Γ) (d := fhD Γ - 1) (by omega) s0 σ hb2) (by omega) (by decide +kernel) rfl rfl rfl (Nat.le_of_ble_eq_true rfl) rfl ?_
  show fhW fhYM Γ 164 [] [] q7
  refine fhW.goto hΓ (off := 109) (tgt := 273) (by decide +kernel) ?_
  have e9 := Option.some.inj h
  subst e9
  exact fhW.vret hΓ (by decide +kernel) hk
set_option maxRecDepth 100000 in
set_option maxHeartbeats 4000000 in
theorem L_X12_qJoins_181 {Γ : fhX} (hΓ : fhOk fhYM 12 cX12_qJoins 6 none Γ) (hd : 1 ≤ fhD Γ) (s0 : Int64)  (σ : fhM) (o : fhM) (h : f_X12_qJoins_181 s0 σ = some o) (hk : (fun o => fhRet Γ none o) o) : fhW fhYM Γ 181 [] [.long s0, .ref 0] σ := by
  unfold f_X12_qJoins_181 at h
  obtain ⟨q8, hb3, h⟩ := Option.bind_eq_some_iff.mp h
  refine fhW.callv hΓ mvX12_qPuts ml_12_658 (t := 0) (ci := 12) (av := [.long s0]) (rest := []) (r := none) (σ' := q8) (T_X12_qPuts (E := fhEn Γ) (d := fhD Γ - 1) (by omega) s0 σ hb3) (by omega) (by decide +kernel) rfl rfl rfl (Nat.le_of_ble_eq_true rfl) rfl ?_
  show fhW fhYM Γ 184 [] [] q8
  refine fhW.goto hΓ (off := 89) (tgt := 273) (by decide +kernel) ?_
  have e9 := Option.some.inj h
  subst e9
  exact fhW.vret hΓ (by decide +kernel) hk
set_option maxRecDepth 100000 in
set_option maxHeartbeats 4000000 in
theorem L_X12_qJoins_200 {Γ : fhX} (hΓ : fhOk fhYM 12 cX12_qJoins 6 none Γ) (hd : 1 ≤ fhD Γ) (s0 : Int64)  (σ : fhM) (o : fhM) (h : f_X12_qJoins_200 s0 σ = some o) (hk : (fun o => fhRet Γ none o) o) : fhW fhYM Γ 200 [] [.long s0, .ref 0] σ := by
  unfold f_X12_qJoins_200 at h
  obtain ⟨q9, hb4, h⟩ := Option.bind_eq_some_iff.mp h
  refine fhW.callv hΓ mvX12_qPuts ml_12_658 (t := 0) (ci := 12) (av := [.long s0]) (rest := []) (r := none) (σ' := q9) (T_X12_qPuts (E := fhEn Γ) (d := fhD Γ - 1) (by omega) s0 σ hb4) (by omega) (by decide +kernel) rfl rfl rfl (Nat.le_of_ble_eq_true rfl) rfl ?_
  show fhW fhYM Γ 203 [] [] q9
  refine fhW.goto hΓ (off := 70) (tgt := 273) (by decide +kernel) ?_
  have e9 := Option.some.inj h
  subst e9
  exact fhW.vret hΓ (by decide +kernel) hk
set_option maxRecDepth 100000 in
set_option maxHeartbeats 4000000 in
theorem L_X12_qJoins_219 {Γ : fhX} (hΓ : fhOk fhYM 12 cX12_qJoins 6 none Γ) (hd : 1 ≤ fhD Γ) (s0 : Int64)  (σ : fhM) (o : fhM) (h : f_X12_qJoins_219 s0 σ = some o) (hk : (fun o => fhRet Γ none o) o) : fhW fhYM Γ 219 [] [.long s0, .ref 0] σ := by
  unfold f_X12_qJoins_219 at h
  obtain ⟨q10, hb5, h⟩ := Option.bind_eq_some_iff.mp h
  refine fhW.callv hΓ mvX12_qPuts ml_12_658 (t := 0) (ci := 12) (av := [.long s0]) (rest := []) (r := none) (σ' := q10) (T_X12_qPuts (E := fhEn Γ) (d := fhD Γ - 1) (by omega) s0 σ hb5) (by omega) (by decide +kernel) rfl rfl rfl (Nat.le_of_ble_eq_true rfl) rfl ?_
  show fhW fhYM Γ 222 [] [] q10
  refine fhW.goto hΓ (off := 51) (tgt := 273) (by decide +kernel) ?_
  have e9 := Option.some.inj h
  subst e9
  exact fhW.vret hΓ (by decide +kernel) hk
set_option maxRecDepth 100000 in
set_option maxHeartbeats 4000000 in
theorem L_X12_qJoins_238 {Γ : fhX} (hΓ : fhOk fhYM 12 cX12_qJoins 6 none Γ) (hd : 1 ≤ fhD Γ) (s0 : Int64)  (σ : fhM) (o : fhM) (h : f_X12_qJoins_238 s0 σ = some o) (hk : (fun o => fhRet Γ none o) o) : fhW fhYM Γ 238 [] [.long s0, .ref 0] σ := by
  unfold f_X12_qJoins_238 at h
  obtain ⟨q11, hb6, h⟩ := Option.bind_eq_some_iff.mp h
  refine fhW.callv hΓ mvX12_qPuts ml_12_658 (t := 0) (ci := 12) (av := [.long s0]) (rest := []) (r := none) (σ' := q11) (T_X12_qPuts (E := fhEn Γ) (d := fhD Γ - 1) (by omega) s0 σ hb6) (by omega) (by decide +kernel) rfl rfl rfl (Nat.le_of_ble_eq_true rfl) rfl ?_
  show fhW fhYM Γ 241 [] [] q11
  refine fhW.goto hΓ (off := 32) (tgt := 273) (by decide +kernel) ?_
  have e9 := Option.some.inj h
  subst e9
  exact fhW.vret hΓ (by decide +kernel) hk
set_option maxRecDepth 100000 in
set_option maxHeartbeats 4000000 in
theorem L_X12_qJoins_E {Γ : fhX} (hΓ : fhOk fhYM 12 cX12_qJoins 6 none Γ) (hd : 1 ≤ fhD Γ) (v1 : Int32)  (σ : fhM) (o : fhM) (h : f_X12_qJoins v1 σ = some o) (hk : (fun o => fhRet Γ none o) o) : fhW fhYM Γ 0 [(0, .ref 0), (1, .int v1)] [] σ := by
  unfold f_X12_qJoins at h
  obtain ⟨hg1, h⟩ := fhif h
  refine fhW.blk fhPM fhLL hΓ [(.aload_n 0, 0), (.getfield 253, 0), (.aload_n 0, 0), (.getfield 651, 0), (.iconst 1, 1), (.isub, 0), (.laload, 0), (.lstore_n 2, 0), (.aload_n 0, 0), (.getfield 253, 0), (.aload_n 0, 0), (.getfield 651, 0), (.iconst 2, 2), (.isub, 0), (.laload, 0), (.lstore 4, 0), (.aload_n 0, 0), (.dup, 0), (.getfield 651, 0), (.iconst 2, 2), (.isub, 0), (.putfield 651, 0), (.iload_n 1, 0)] (pc' := 36) (lv' := [(4, .long (σ.2.1 78 (fhix ((σ.1 0 105) - (2 : Int32))))), (2, .long (σ.2.1 78 (fhix ((σ.1 0 105) - (1 : Int32))))), (0, .ref 0), (1, .int v1)]) (st' := [.int v1]) (σ' := (fhI σ 0 105 ((σ.1 0 105) - (2 : Int32)))) (by decide +kernel) rfl rfl hg1 ?_
  refine fhW.tsw hΓ (dflt := 219) (lo := 1) (hi := 10) (offs := #[56, 70, 84, 98, 111, 131, 151, 170, 189, 208]) (len := 56) (td := 255) [(1, 92), (2, 106), (3, 120), (4, 134), (5, 147), (6, 167), (7, 187), (8, 206), (9, 225), (10, 244)] (by decide +kernel) ?_
  refine fhsw_c (fun hc => ?_) (fun hc => ?_)
  · rw [if_pos hc] at h
    refine fhW.blk fhPM fhLL hΓ [(.aload_n 0, 0), (.lload 4, 0), (.lload_n 2, 0), (.ladd, 0)] (pc' := 97) (lv' := [(4, .long (σ.2.1 78 (fhix ((σ.1 0 105) - (2 : Int32))))), (2, .long (σ.2.1 78 (fhix ((σ.1 0 105) - (1 : Int32))))), (0, .ref 0), (1, .int v1)]) (st' := [.long ((σ.2.1 78 (fhix ((σ.1 0 105) - (2 : Int32)))) + (σ.2.1 78 (fhix ((σ.1 0 105) - (1 : Int32))))), .ref 0]) (σ' := (fhI σ 0 105 ((σ.1 0 105) - (2 : Int32)))) (by decide +kernel) rfl rfl rfl ?_
    refine fhW.calls hΓ msX12_qClip ml_12_654 (av := [.long ((σ.2.1 78 (fhix ((σ.1 0 105) - (2 : Int32)))) + (σ.2.1 78 (fhix ((σ.1 0 105) - (1 : Int32)))))]) (rest := [.ref 0]) (r := (some (.long (f_X12_qClip ((σ.2.1 78 (fhix ((σ.1 0 105) - (2 : Int32)))) + (σ.2.1 78 (fhix ((σ.1 0 105) - (1 : Int32))))) (fhI σ 0 105 ((σ.1 0 105) - (2 : Int32))))))) (σ' := (fhI σ 0 105 ((σ.1 0 105) - (2 : Int32)))) (T_X12_qClip (E := fhEn Γ) (d := fhD Γ - 1) (by omega) ((σ.2.1 78 (fhix ((σ.1 0 105) - (2 : Int32)))) + (σ.2.1 78 (fhix ((σ.1 0 105) - (1 : Int32))))) (fhI σ 0 105 ((σ.1 0 105) - (2 : Int32)))) (by omega) (by decide +kernel) rfl (Nat.le_of_ble_eq_true rfl) rfl ?_
    show fhW fhYM Γ 100 [(4, .long (σ.2.1 78 (fhix ((σ.1 0 105) - (2 : Int32))))), (2, .long (σ.2.1 78 (fhix ((σ.1 0 105) - (1 : Int32))))), (0, .ref 0), (1, .int v1)] [.long (f_X12_qClip ((σ.2.1 78 (fhix ((σ.1 0 105) - (2 : Int32)))) + (σ.2.1 78 (fhix ((σ.1 0 105) - (1 : Int32))))) (fhI σ 0 105 ((σ.1 0 105) - (2 : Int32)))), .ref 0] (fhI σ 0 105 ((σ.1 0 105) - (2 : Int32)))
    obtain ⟨q1, hb7, h⟩ := Option.bind_eq_some_iff.mp h
    refine fhW.callv hΓ mvX12_qPuts ml_12_658 (t := 0) (ci := 12) (av := [.long (f_X12_qClip ((σ.2.1 78 (fhix ((σ.1 0 105) - (2 : Int32)))) + (σ.2.1 78 (fhix ((σ.1 0 105) - (1 : Int32))))) (fhI σ 0 105 ((σ.1 0 105) - (2 : Int32))))]) (rest := []) (r := none) (σ' := q1) (T_X12_qPuts (E := fhEn Γ) (d := fhD Γ - 1) (by omega) (f_X12_qClip ((σ.2.1 78 (fhix ((σ.1 0 105) - (2 : Int32)))) + (σ.2.1 78 (fhix ((σ.1 0 105) - (1 : Int32))))) (fhI σ 0 105 ((σ.1 0 105) - (2 : Int32)))) (fhI σ 0 105 ((σ.1 0 105) - (2 : Int32))) hb7) (by omega) (by decide +kernel) rfl rfl rfl (Nat.le_of_ble_eq_true rfl) rfl ?_
    show fhW fhYM Γ 103 [(4, .long (σ.2.1 78 (fhix ((σ.1 0 105) - (2 : Int32))))), (2, .long (σ.2.1 78 (fhix ((σ.1 0 105) - (1 : Int32))))), (0, .ref 0), (1, .int v1)] [] q1
    refine fhW.goto hΓ (off := 170) (tgt := 273) (by decide +kernel) ?_
    have e9 := Option.some.inj h
    subst e9
    exact fhW.vret hΓ (by decide +kernel) hk
  rw [if_neg hc] at h
  refine fhsw_c (fun hc => ?_) (fun hc => ?_)
  · rw [if_pos hc] at h
    refine fhW.blk fhPM fhLL hΓ [(.aload_n 0, 0), (.lload 4, 0), (.lload_n 2, 0), (.lsub, 0)] (pc' := 111) (lv' := [(4, .long (σ.2.1 78 (fhix ((σ.1 0 105) - (2 : Int32))))), (2, .long (σ.2.1 78 (fhix ((σ.1 0 105) - (1 : Int32))))), (0, .ref 0), (1, .int v1)]) (st' := [.long ((σ.2.1 78 (fhix ((σ.1 0 105) - (2 : Int32)))) - (σ.2.1 78 (fhix ((σ.1 0 105) - (1 : Int32))))), .ref 0]) (σ' := (fhI σ 0 105 ((σ.1 0 105) - (2 : Int32)))) (by decide +kernel) rfl rfl rfl ?_
    refine fhW.calls hΓ msX12_qClip ml_12_654 (av := [.long ((σ.2.1 78 (fhix ((σ.1 0 105) - (2 : Int32)))) - (σ.2.1 78 (fhix ((σ.1 0 105) - (1 : Int32)))))]) (rest := [.ref 0]) (r := (some (.long (f_X12_qClip ((σ.2.1 78 (fhix ((σ.1 0 105) - (2 : Int32)))) - (σ.2.1 78 (fhix ((σ.1 0 105) - (1 : Int32))))) (fhI σ 0 105 ((σ.1 0 105) - (2 : Int32))))))) (σ' := (fhI σ 0 105 ((σ.1 0 105) - (2 : Int32)))) (T_X12_qClip (E := fhEn Γ) (d := fhD Γ - 1) (by omega) ((σ.2.1 78 (fhix ((σ.1 0 105) - (2 : Int32)))) - (σ.2.1 78 (fhix ((σ.1 0 105) - (1 : Int32))))) (fhI σ 0 105 ((σ.1 0 105) - (2 : Int32)))) (by omega) (by decide +kernel) rfl (Nat.le_of_ble_eq_true rfl) rfl ?_
    show fhW fhYM Γ 114 [(4, .long (σ.2.1 78 (fhix ((σ.1 0 105) - (2 : Int32))))), (2, .long (σ.2.1 78 (fhix ((σ.1 0 105) - (1 : Int32))))), (0, .ref 0), (1, .int v1)] [.long (f_X12_qClip ((σ.2.1 78 (fhix ((σ.1 0 105) - (2 : Int32)))) - (σ.2.1 78 (fhix ((σ.1 0 105) - (1 : Int32))))) (fhI σ 0 105 ((σ.1 0 105) - (2 : Int32)))), .ref 0] (fhI σ 0 105 ((σ.1 0 105) - (2 : Int32)))
    obtain ⟨q2, hb8, h⟩ := Option.bind_eq_some_iff.mp h
    refine fhW.callv hΓ mvX12_qPuts ml_12_658 (t := 0) (ci := 12) (av := [.long (f_X12_qClip ((σ.2.1 78 (fhix ((σ.1 0 105) - (2 : Int32)))) - (σ.2.1 78 (fhix ((σ.1 0 105) - (1 : Int32))))) (fhI σ 0 105 ((σ.1 0 105) - (2 : Int32))))]) (rest := []) (r := none) (σ' := q2) (T_X12_qPuts (E := fhEn Γ) (d := fhD Γ - 1) (by omega) (f_X12_qClip ((σ.2.1 78 (fhix ((σ.1 0 105) - (2 : Int32)))) - (σ.2.1 78 (fhix ((σ.1 0 105) - (1 : Int32))))) (fhI σ 0 105 ((σ.1 0 105) - (2 : Int32)))) (fhI σ 0 105 ((σ.1 0 105) - (2 : Int32))) hb8) (by omega) (by decide +kernel) rfl rfl rfl (Nat.le_of_ble_eq_true rfl) rfl ?_
    show fhW fhYM Γ 117 [(4, .long (σ.2.1 78 (fhix ((σ.1 0 105) - (2 : Int32))))), (2, .long (σ.2.1 78 (fhix ((σ.1 0 105) - (1 : Int32))))), (0, .ref 0), (1, .int v1)] [] q2
    refine fhW.goto hΓ (off := 156) (tgt := 273) (by decide +kernel) ?_
    have e9 := Option.some.inj h
    subst e9
    exact fhW.vret hΓ (by decide +kernel) hk
  rw [if_neg hc] at h
  refine fhsw_c (fun hc => ?_) (fun hc => ?_)
  · rw [if_pos hc] at h
    refine fhW.blk fhPM fhLL hΓ [(.aload_n 0, 0), (.lload 4, 0), (.lload_n 2, 0), (.lmul, 0)] (pc' := 125) (lv' := [(4, .long (σ.2.1 78 (fhix ((σ.1 0 105) - (2 : Int32))))), (2, .long (σ.2.1 78 (fhix ((σ.1 0 105) - (1 : Int32))))), (0, .ref 0), (1, .int v1)]) (st' := [.long ((σ.2.1 78 (fhix ((σ.1 0 105) - (2 : Int32)))) * (σ.2.1 78 (fhix ((σ.1 0 105) - (1 : Int32))))), .ref 0]) (σ' := (fhI σ 0 105 ((σ.1 0 105) - (2 : Int32)))) (by decide +kernel) rfl rfl rfl ?_
    refine fhW.calls hΓ msX12_qClip ml_12_654 (av := [.long ((σ.2.1 78 (fhix ((σ.1 0 105) - (2 : Int32)))) * (σ.2.1 78 (fhix ((σ.1 0 105) - (1 : Int32)))))]) (rest := [.ref 0]) (r := (some (.long (f_X12_qClip ((σ.2.1 78 (fhix ((σ.1 0 105) - (2 : Int32)))) * (σ.2.1 78 (fhix ((σ.1 0 105) - (1 : Int32))))) (fhI σ 0 105 ((σ.1 0 105) - (2 : Int32))))))) (σ' := (fhI σ 0 105 ((σ.1 0 105) - (2 : Int32)))) (T_X12_qClip (E := fhEn Γ) (d := fhD Γ - 1) (by omega) ((σ.2.1 78 (fhix ((σ.1 0 105) - (2 : Int32)))) * (σ.2.1 78 (fhix ((σ.1 0 105) - (1 : Int32))))) (fhI σ 0 105 ((σ.1 0 105) - (2 : Int32)))) (by omega) (by decide +kernel) rfl (Nat.le_of_ble_eq_true rfl) rfl ?_
    show fhW fhYM Γ 128 [(4, .long (σ.2.1 78 (fhix ((σ.1 0 105) - (2 : Int32))))), (2, .long (σ.2.1 78 (fhix ((σ.1 0 105) - (1 : Int32))))), (0, .ref 0), (1, .int v1)] [.long (f_X12_qClip ((σ.2.1 78 (fhix ((σ.1 0 105) - (2 : Int32)))) * (σ.2.1 78 (fhix ((σ.1 0 105) - (1 : Int32))))) (fhI σ 0 105 ((σ.1 0 105) - (2 : Int32)))), .ref 0] (fhI σ 0 105 ((σ.1 0 105) - (2 : Int32)))
    obtain ⟨q3, hb9, h⟩ := Option.bind_eq_some_iff.mp h
    refine fhW.callv hΓ mvX12_qPuts ml_12_658 (t := 0) (ci := 12) (av := [.long (f_X12_qClip ((σ.2.1 78 (fhix ((σ.1 0 105) - (2 : Int32)))) * (σ.2.1 78 (fhix ((σ.1 0 105) - (1 : Int32))))) (fhI σ 0 105 ((σ.1 0 105) - (2 : Int32))))]) (rest := []) (r := none) (σ' := q3) (T_X12_qPuts (E := fhEn Γ) (d := fhD Γ - 1) (by omega) (f_X12_qClip ((σ.2.1 78 (fhix ((σ.1 0 105) - (2 : Int32)))) * (σ.2.1 78 (fhix ((σ.1 0 105) - (1 : Int32))))) (fhI σ 0 105 ((σ.1 0 105) - (2 : Int32)))) (fhI σ 0 105 ((σ.1 0 105) - (2 : Int32))) hb9) (by omega) (by decide +kernel) rfl rfl rfl (Nat.le_of_ble_eq_true rfl) rfl ?_
    show fhW fhYM Γ 131 [(4, .long (σ.2.1 78 (fhix ((σ.1 0 105) - (2 : Int32))))), (2, .long (σ.2.1 78 (fhix ((σ.1 0 105) - (1 : Int32))))), (0, .ref 0), (1, .int v1)] [] q3
    refine fhW.goto hΓ (off := 142) (tgt := 273) (by decide +kernel) ?_
    have e9 := Option.some.inj h
    subst e9
    exact fhW.vret hΓ (by decide +kernel) hk
  rw [if_neg hc] at h
  refine fhsw_c (fun hc => ?_) (fun hc => ?_)
  · rw [if_pos hc] at h
    refine fhW.blk fhPM fhLL hΓ [(.aload_n 0, 0), (.lload 4, 0), (.lload_n 2, 0)] (pc' := 138) (lv' := [(4, .long (σ.2.1 78 (fhix ((σ.1 0 105) - (2 : Int32))))), (2, .long (σ.2.1 78 (fhix ((σ.1 0 105) - (1 : Int32))))), (0, .ref 0), (1, .int v1)]) (st' := [.long (σ.2.1 78 (fhix ((σ.1 0 105) - (1 : Int32)))), .long (σ.2.1 78 (fhix ((σ.1 0 105) - (2 : Int32)))), .ref 0]) (σ' := (fhI σ 0 105 ((σ.1 0 105) - (2 : Int32)))) (by decide +kernel) rfl rfl rfl ?_
    obtain ⟨q4, hb10, h⟩ := Option.bind_eq_some_iff.mp h
    refine fhW.calls hΓ msX12_qFloor ml_12_662 (av := [.long (σ.2.1 78 (fhix ((σ.1 0 105) - (2 : Int32)))), .long (σ.2.1 78 (fhix ((σ.1 0 105) - (1 : Int32))))]) (rest := [.ref 0]) (r := (some (.long q4))) (σ' := (fhI σ 0 105 ((σ.1 0 105) - (2 : Int32)))) (T_X12_qFloor (E := fhEn Γ) (d := fhD Γ - 1) (by omega) (σ.2.1 78 (fhix ((σ.1 0 105) - (2 : Int32)))) (σ.2.1 78 (fhix ((σ.1 0 105) - (1 : Int32)))) (fhI σ 0 105 ((σ.1 0 105) - (2 : Int32))) hb10) (by omega) (by decide +kernel) rfl (Nat.le_of_ble_eq_true rfl) rfl ?_
    show fhW fhYM Γ 141 [(4, .long (σ.2.1 78 (fhix ((σ.1 0 105) - (2 : Int32))))), (2, .long (σ.2.1 78 (fhix ((σ.1 0 105) - (1 : Int32))))), (0, .ref 0), (1, .int v1)] [.long q4, .ref 0] (fhI σ 0 105 ((σ.1 0 105) - (2 : Int32)))
    obtain ⟨q5, hb11, h⟩ := Option.bind_eq_some_iff.mp h
    refine fhW.callv hΓ mvX12_qPuts ml_12_658 (t := 0) (ci := 12) (av := [.long q4]) (rest := []) (r := none) (σ' := q5) (T_X12_qPuts (E := fhEn Γ) (d := fhD Γ - 1) (by omega) q4 (fhI σ 0 105 ((σ.1 0 105) - (2 : Int32))) hb11) (by omega) (by decide +kernel) rfl rfl rfl (Nat.le_of_ble_eq_true rfl) rfl ?_
    show fhW fhYM Γ 144 [(4, .long (σ.2.1 78 (fhix ((σ.1 0 105) - (2 : Int32))))), (2, .long (σ.2.1 78 (fhix ((σ.1 0 105) - (1 : Int32))))), (0, .ref 0), (1, .int v1)] [] q5
    refine fhW.goto hΓ (off := 129) (tgt := 273) (by decide +kernel) ?_
    have e9 := Option.some.inj h
    subst e9
    exact fhW.vret hΓ (by decide +kernel) hk
  rw [if_neg hc] at h
  refine fhsw_c (fun hc => ?_) (fun hc => ?_)
  · rw [if_pos hc] at h
    refine fhW.blk fhPM fhLL hΓ [(.aload_n 0, 0), (.lload 4, 0), (.lload_n 2, 0), (.lcmp, 0)] (pc' := 152) (lv' := [(4, .long (σ.2.1 78 (fhix ((σ.1 0 105) - (2 : Int32))))), (2, .long (σ.2.1 78 (fhix ((σ.1 0 105) - (1 : Int32))))), (0, .ref 0), (1, .int v1)]) (st' := [.int (lg_cmp (σ.2.1 78 (fhix ((σ.1 0 105) - (2 : Int32)))) (σ.2.1 78 (fhix ((σ.1 0 105) - (1 : Int32))))), .ref 0]) (σ' := (fhI σ 0 105 ((σ.1 0 105) - (2 : Int32)))) (by decide +kernel) rfl rfl rfl ?_
    refine fhW.z_ge hΓ (tgt := 160) (show fhbk _ _ (.ifCond .ge (8)) _ = true by decide +kernel) (fun hc => ?_) (fun hc => ?_)
    · simp only [if_pos hc] at h
      refine fhW.blk fhPM fhLL hΓ [(.lload_n 2, 0)] (pc' := 161) (lv' := [(4, .long (σ.2.1 78 (fhix ((σ.1 0 105) - (2 : Int32))))), (2, .long (σ.2.1 78 (fhix ((σ.1 0 105) - (1 : Int32))))), (0, .ref 0), (1, .int v1)]) (st' := [.long (σ.2.1 78 (fhix ((σ.1 0 105) - (1 : Int32)))), .ref 0]) (σ' := (fhI σ 0 105 ((σ.1 0 105) - (2 : Int32)))) (by decide +kernel) rfl rfl rfl ?_
      refine fhW.sub (lv' := []) [] rfl ?_
      exact L_X12_qJoins_161 hΓ hd (σ.2.1 78 (fhix ((σ.1 0 105) - (1 : Int32)))) (fhI σ 0 105 ((σ.1 0 105) - (2 : Int32))) _ h hk
    · simp only [if_neg hc] at h
      refine fhW.blk fhPM fhLL hΓ [(.lload 4, 0)] (pc' := 157) (lv' := [(4, .long (σ.2.1 78 (fhix ((σ.1 0 105) - (2 : Int32))))), (2, .long (σ.2.1 78 (fhix ((σ.1 0 105) - (1 : Int32))))), (0, .ref 0), (1, .int v1)]) (st' := [.long (σ.2.1 78 (fhix ((σ.1 0 105) - (2 : Int32)))), .ref 0]) (σ' := (fhI σ 0 105 ((σ.1 0 105) - (2 : Int32)))) (by decide +kernel) rfl rfl rfl ?_
      refine fhW.goto hΓ (off := 4) (tgt := 161) (by decide +kernel) ?_
      refine fhW.sub (lv' := []) [] rfl ?_
      exact L_X12_qJoins_161 hΓ hd (σ.2.1 78 (fhix ((σ.1 0 105) - (2 : Int32)))) (fhI σ 0 105 ((σ.1 0 105) - (2 : Int32))) _ h hk
  rw [if_neg hc] at h
  refine fhsw_c (fun hc => ?_) (fun hc => ?_)
  · rw [if_pos hc] at h
    refine fhW.blk fhPM fhLL hΓ [(.aload_n 0, 0), (.lload 4, 0), (.lload_n 2, 0), (.lcmp, 0)] (pc' := 172) (lv' := [(4, .long (σ.2.1 78 (fhix ((σ.1 0 105) - (2 : Int32))))), (2, .long (σ.2.1 78 (fhix ((σ.1 0 105) - (1 : Int32))))), (0, .ref 0), (1, .int v1)]) (st' := [.int (lg_cmp (σ.2.1 78 (fhix ((σ.1 0 105) - (2 : Int32)))) (σ.2.1 78 (fhix ((σ.1 0 105) - (1 : Int32))))), .ref 0]) (σ' := (fhI σ 0 105 ((σ.1 0 105) - (2 : Int32)))) (by decide +kernel) rfl rfl rfl ?_
    refine fhW.z_le hΓ (tgt := 180) (show fhbk _ _ (.ifCond .le (8)) _ = true by decide +kernel) (fun hc => ?_) (fun hc => ?_)
    · simp only [if_pos hc] at h
      refine fhW.blk fhPM fhLL hΓ [(.lload_n 2, 0)] (pc' := 181) (lv' := [(4, .long (σ.2.1 78 (fhix ((σ.1 0 105) - (2 : Int32))))), (2, .long (σ.2.1 78 (fhix ((σ.1 0 105) - (1 : Int32))))), (0, .ref 0), (1, .int v1)]) (st' := [.long (σ.2.1 78 (fhix ((σ.1 0 105) - (1 : Int32)))), .ref 0]) (σ' := (fhI σ 0 105 ((σ.1 0 105) - (2 : Int32)))) (by decide +kernel) rfl rfl rfl ?_
      refine fhW.sub (lv' := []) [] rfl ?_
      exact L_X12_qJoins_181 hΓ hd (σ.2.1 78 (fhix ((σ.1 0 105) - (1 : Int32)))) (fhI σ 0 105 ((σ.1 0 105) - (2 : Int32))) _ h hk
    · simp only [if_neg hc] at h
      refine fhW.blk fhPM fhLL hΓ [(.lload 4, 0)] (pc' := 177) (lv' := [(4, .long (σ.2.1 78 (fhix ((σ.1 0 105) - (2 : Int32))))), (2, .long (σ.2.1 78 (fhix ((σ.1 0 105) - (1 : Int32))))), (0, .ref 0), (1, .int v1)]) (st' := [.long (σ.2.1 78 (fhix ((σ.1 0 105) - (2 : Int32)))), .ref 0]) (σ' := (fhI σ 0 105 ((σ.1 0 105) - (2 : Int32)))) (by decide +kernel) rfl rfl rfl ?_
      refine fhW.goto hΓ (off := 4) (tgt := 181) (by decide +kernel) ?_
      refine fhW.sub (lv' := []) [] rfl ?_
      exact L_X12_qJoins_181 hΓ hd (σ.2.1 78 (fhix ((σ.1 0 105) - (2 : Int32)))) (fhI σ 0 105 ((σ.1 0 105) - (2 : Int32))) _ h hk
  rw [if_neg hc] at h
  refine fhsw_c (fun hc => ?_) (fun hc => ?_)
  · rw [if_pos hc] at h
    refine fhW.blk fhPM fhLL hΓ [(.aload_n 0, 0), (.lload 4, 0), (.lload_n 2, 0), (.lcmp, 0)] (pc' := 192) (lv' := [(4, .long (σ.2.1 78 (fhix ((σ.1 0 105) - (2 : Int32))))), (2, .long (σ.2.1 78 (fhix ((σ.1 0 105) - (1 : Int32))))), (0, .ref 0), (1, .int v1)]) (st' := [.int (lg_cmp (σ.2.1 78 (fhix ((σ.1 0 105) - (2 : Int32)))) (σ.2.1 78 (fhix ((σ.1 0 105) - (1 : Int32))))), .ref 0]) (σ' := (fhI σ 0 105 ((σ.1 0 105) - (2 : Int32)))) (by decide +kernel) rfl rfl rfl ?_
    refine fhW.z_ge hΓ (tgt := 199) (show fhbk _ _ (.ifCond .ge (7)) _ = true by decide +kernel) (fun hc => ?_) (fun hc => ?_)
    · simp only [if_pos hc] at h
      refine fhW.blk fhPM fhLL hΓ [(.lconst 0, 0)] (pc' := 200) (lv' := [(4, .long (σ.2.1 78 (fhix ((σ.1 0 105) - (2 : Int32))))), (2, .long (σ.2.1 78 (fhix ((σ.1 0 105) - (1 : Int32))))), (0, .ref 0), (1, .int v1)]) (st' := [.long (0 : Int64), .ref 0]) (σ' := (fhI σ 0 105 ((σ.1 0 105) - (2 : Int32)))) (by decide +kernel) rfl rfl rfl ?_
      refine fhW.sub (lv' := []) [] rfl ?_
      exact L_X12_qJoins_200 hΓ hd (0 : Int64) (fhI σ 0 105 ((σ.1 0 105) - (2 : Int32))) _ h hk
    · simp only [if_neg hc] at h
      refine fhW.blk fhPM fhLL hΓ [(.lconst 1, 0)] (pc' := 196) (lv' := [(4, .long (σ.2.1 78 (fhix ((σ.1 0 105) - (2 : Int32))))), (2, .long (σ.2.1 78 (fhix ((σ.1 0 105) - (1 : Int32))))), (0, .ref 0), (1, .int v1)]) (st' := [.long (1 : Int64), .ref 0]) (σ' := (fhI σ 0 105 ((σ.1 0 105) - (2 : Int32)))) (by decide +kernel) rfl rfl rfl ?_
      refine fhW.goto hΓ (off := 4) (tgt := 200) (by decide +kernel) ?_
      refine fhW.sub (lv' := []) [] rfl ?_
      exact L_X12_qJoins_200 hΓ hd (1 : Int64) (fhI σ 0 105 ((σ.1 0 105) - (2 : Int32))) _ h hk
  rw [if_neg hc] at h
  refine fhsw_c (fun hc => ?_) (fun hc => ?_)
  · rw [if_pos hc] at h
    refine fhW.blk fhPM fhLL hΓ [(.aload_n 0, 0), (.lload 4, 0), (.lload_n 2, 0), (.lcmp, 0)] (pc' := 211) (lv' := [(4, .long (σ.2.1 78 (fhix ((σ.1 0 105) - (2 : Int32))))), (2, .long (σ.2.1 78 (fhix ((σ.1 0 105) - (1 : Int32))))), (0, .ref 0), (1, .int v1)]) (st' := [.int (lg_cmp (σ.2.1 78 (fhix ((σ.1 0 105) - (2 : Int32)))) (σ.2.1 78 (fhix ((σ.1 0 105) - (1 : Int32))))), .ref 0]) (σ' := (fhI σ 0 105 ((σ.1 0 105) - (2 : Int32)))) (by decide +kernel) rfl rfl rfl ?_
    refine fhW.z_le hΓ (tgt := 218) (show fhbk _ _ (.ifCond .le (7)) _ = true by decide +kernel) (fun hc => ?_) (fun hc => ?_)
    · simp only [if_pos hc] at h
      refine fhW.blk fhPM fhLL hΓ [(.lconst 0, 0)] (pc' := 219) (lv' := [(4, .long (σ.2.1 78 (fhix ((σ.1 0 105) - (2 : Int32))))), (2, .long (σ.2.1 78 (fhix ((σ.1 0 105) - (1 : Int32))))), (0, .ref 0), (1, .int v1)]) (st' := [.long (0 : Int64), .ref 0]) (σ' := (fhI σ 0 105 ((σ.1 0 105) - (2 : Int32)))) (by decide +kernel) rfl rfl rfl ?_
      refine fhW.sub (lv' := []) [] rfl ?_
      exact L_X12_qJoins_219 hΓ hd (0 : Int64) (fhI σ 0 105 ((σ.1 0 105) - (2 : Int32))) _ h hk
    · simp only [if_neg hc] at h
      refine fhW.blk fhPM fhLL hΓ [(.lconst 1, 0)] (pc' := 215) (lv' := [(4, .long (σ.2.1 78 (fhix ((σ.1 0 105) - (2 : Int32))))), (2, .long (σ.2.1 78 (fhix ((σ.1 0 105) - (1 : Int32))))), (0, .ref 0), (1, .int v1)]) (st' := [.long (1 : Int64), .ref 0]) (σ' := (fhI σ 0 105 ((σ.1 0 105) - (2 : Int32)))) (by decide +kernel) rfl rfl rfl ?_
      refine fhW.goto hΓ (off := 4) (tgt := 219) (by decide +kernel) ?_
      refine fhW.sub (lv' := []) [] rfl ?_
      exact L_X12_qJoins_219 hΓ hd (1 : Int64) (fhI σ 0 105 ((σ.1 0 105) - (2 : Int32))) _ h hk
  rw [if_neg hc] at h
  refine fhsw_c (fun hc => ?_) (fun hc => ?_)
  · rw [if_pos hc] at h
    refine fhW.blk fhPM fhLL hΓ [(.aload_n 0, 0), (.lload 4, 0), (.lload_n 2, 0), (.lcmp, 0)] (pc' := 230) (lv' := [(4, .long (σ.2.1 78 (fhix ((σ.1 0 105) - (2 : Int32))))), (2, .long (σ.2.1 78 (fhix ((σ.1 0 105) - (1 : Int32))))), (0, .ref 0), (1, .int v1)]) (st' := [.int (lg_cmp (σ.2.1 78 (fhix ((σ.1 0 105) - (2 : Int32)))) (σ.2.1 78 (fhix ((σ.1 0 105) - (1 : Int32))))), .ref 0]) (σ' := (fhI σ 0 105 ((σ.1 0 105) - (2 : Int32)))) (by decide +kernel) rfl rfl rfl ?_
    refine fhW.z_ne hΓ (tgt := 237) (show fhbk _ _ (.ifCond .ne (7)) _ = true by decide +kernel) (fun hc => ?_) (fun hc => ?_)
    · simp only [if_neg hc] at h
      refine fhW.blk fhPM fhLL hΓ [(.lconst 0, 0)] (pc' := 238) (lv' := [(4, .long (σ.2.1 78 (fhix ((σ.1 0 105) - (2 : Int32))))), (2, .long (σ.2.1 78 (fhix ((σ.1 0 105) - (1 : Int32))))), (0, .ref 0), (1, .int v1)]) (st' := [.long (0 : Int64), .ref 0]) (σ' := (fhI σ 0 105 ((σ.1 0 105) - (2 : Int32)))) (by decide +kernel) rfl rfl rfl ?_
      refine fhW.sub (lv' := []) [] rfl ?_
      exact L_X12_qJoins_238 hΓ hd (0 : Int64) (fhI σ 0 105 ((σ.1 0 105) - (2 : Int32))) _ h hk
    · simp only [if_pos hc] at h
      refine fhW.blk fhPM fhLL hΓ [(.lconst 1, 0)] (pc' := 234) (lv' := [(4, .long (σ.2.1 78 (fhix ((σ.1 0 105) - (2 : Int32))))), (2, .long (σ.2.1 78 (fhix ((σ.1 0 105) - (1 : Int32))))), (0, .ref 0), (1, .int v1)]) (st' := [.long (1 : Int64), .ref 0]) (σ' := (fhI σ 0 105 ((σ.1 0 105) - (2 : Int32)))) (by decide +kernel) rfl rfl rfl ?_
      refine fhW.goto hΓ (off := 4) (tgt := 238) (by decide +kernel) ?_
      refine fhW.sub (lv' := []) [] rfl ?_
      exact L_X12_qJoins_238 hΓ hd (1 : Int64) (fhI σ 0 105 ((σ.1 0 105) - (2 : Int32))) _ h hk
  rw [if_neg hc] at h
  refine fhsw_c (fun hc => ?_) (fun hc => ?_)
  · rw [if_pos hc] at h
    refine fhW.blk fhPM fhLL hΓ [(.aload_n 0, 0), (.lload 4, 0), (.lload_n 2, 0), (.lmul, 0)] (pc' := 249) (lv' := [(4, .long (σ.2.1 78 (fhix ((σ.1 0 105) - (2 : Int32))))), (2, .long (σ.2.1 78 (fhix ((σ.1 0 105) - (1 : Int32))))), (0, .ref 0), (1, .int v1)]) (st' := [.long ((σ.2.1 78 (fhix ((σ.1 0 105) - (2 : Int32)))) * (σ.2.1 78 (fhix ((σ.1 0 105) - (1 : Int32))))), .ref 0]) (σ' := (fhI σ 0 105 ((σ.1 0 105) - (2 : Int32)))) (by decide +kernel) rfl rfl rfl ?_
    obtain ⟨q6, hb12, h⟩ := Option.bind_eq_some_iff.mp h
    refine fhW.callv hΓ mvX12_qPuts ml_12_658 (t := 0) (ci := 12) (av := [.long ((σ.2.1 78 (fhix ((σ.1 0 105) - (2 : Int32)))) * (σ.2.1 78 (fhix ((σ.1 0 105) - (1 : Int32)))))]) (rest := []) (r := none) (σ' := q6) (T_X12_qPuts (E := fhEn Γ) (d := fhD Γ - 1) (by omega) ((σ.2.1 78 (fhix ((σ.1 0 105) - (2 : Int32)))) * (σ.2.1 78 (fhix ((σ.1 0 105) - (1 : Int32))))) (fhI σ 0 105 ((σ.1 0 105) - (2 : Int32))) hb12) (by omega) (by decide +kernel) rfl rfl rfl (Nat.le_of_ble_eq_true rfl) rfl ?_
    show fhW fhYM Γ 252 [(4, .long (σ.2.1 78 (fhix ((σ.1 0 105) - (2 : Int32))))), (2, .long (σ.2.1 78 (fhix ((σ.1 0 105) - (1 : Int32))))), (0, .ref 0), (1, .int v1)] [] q6
    refine fhW.goto hΓ (off := 21) (tgt := 273) (by decide +kernel) ?_
    have e9 := Option.some.inj h
    subst e9
    exact fhW.vret hΓ (by decide +kernel) hk
  rw [if_neg hc] at h
  refine fhsw_n ?_
  refine fhW.blk fhPM fhLL hΓ [(.aload_n 0, 0), (.lload 4, 0), (.lload_n 2, 0), (.ladd, 0), (.lconst 0, 0), (.lcmp, 0)] (pc' := 262) (lv' := [(4, .long (σ.2.1 78 (fhix ((σ.1 0 105) - (2 : Int32))))), (2, .long (σ.2.1 78 (fhix ((σ.1 0 105) - (1 : Int32))))), (0, .ref 0), (1, .int v1)]) (st' := [.int (lg_cmp ((σ.2.1 78 (fhix ((σ.1 0 105) - (2 : Int32)))) + (σ.2.1 78 (fhix ((σ.1 0 105) - (1 : Int32))))) (0 : Int64)), .ref 0]) (σ' := (fhI σ 0 105 ((σ.1 0 105) - (2 : Int32)))) (by decide +kernel) rfl rfl rfl ?_
  refine fhW.z_le hΓ (tgt := 269) (show fhbk _ _ (.ifCond .le (7)) _ = true by decide +kernel) (fun hc => ?_) (fun hc => ?_)
  · simp only [if_pos hc] at h
    refine fhW.blk fhPM fhLL hΓ [(.lconst 0, 0)] (pc' := 270) (lv' := [(4, .long (σ.2.1 78 (fhix ((σ.1 0 105) - (2 : Int32))))), (2, .long (σ.2.1 78 (fhix ((σ.1 0 105) - (1 : Int32))))), (0, .ref 0), (1, .int v1)]) (st' := [.long (0 : Int64), .ref 0]) (σ' := (fhI σ 0 105 ((σ.1 0 105) - (2 : Int32)))) (by decide +kernel) rfl rfl rfl ?_
    refine fhW.sub (lv' := []) [] rfl ?_
    exact L_X12_qJoins_270 hΓ hd (0 : Int64) (fhI σ 0 105 ((σ.1 0 105) - (2 : Int32))) _ h hk
  · simp only [if_neg hc] at h
    refine fhW.blk fhPM fhLL hΓ [(.lconst 1, 0)] (pc' := 266) (lv' := [(4, .long (σ.2.1 78 (fhix ((σ.1 0 105) - (2 : Int32))))), (2, .long (σ.2.1 78 (fhix ((σ.1 0 105) - (1 : Int32))))), (0, .ref 0), (1, .int v1)]) (st' := [.long (1 : Int64), .ref 0]) (σ' := (fhI σ 0 105 ((σ.1 0 105) - (2 : Int32)))) (by decide +kernel) rfl rfl rfl ?_
    refine fhW.goto hΓ (off := 4) (tgt := 270) (by decide +kernel) ?_
    refine fhW.sub (lv' := []) [] rfl ?_
    exact L_X12_qJoins_270 hΓ hd (1 : Int64) (fhI σ 0 105 ((σ.1 0 105) - (2 : Int32))) _ h hk
set_option maxRecDepth 100000 in
theorem T_X12_qJoins {E : fhE} {d : Nat} (hd : 1 ≤ d) (v1 : Int32)  (σ : fhM) {o : fhM} (h : f_X12_qJoins v1 σ = some o) : fhC fhYM E d miX12_qJoins [.ref 0, .int v1] σ none o := by
  refine fhC.of (y := yX12_qJoins) (cc := cX12_qJoins) (nL := 6) (ret := none) 12 rfl (by decide +kernel) (Nat.le_of_ble_eq_true rfl) ?_
  intro Γ hΓ hR hD hEn
  subst hD; subst hEn
  exact L_X12_qJoins_E hΓ hd v1  σ _ h hR
set_option maxRecDepth 100000 in
set_option maxHeartbeats 4000000 in
theorem L_X12_qTold_162 {Γ : fhX} (hΓ : fhOk fhYM 12 cX12_qTold 4 (some .long) Γ) (hd : 3 ≤ fhD Γ) (v1 : Int32) (v2 : Int32)  (σ : fhM) (o : (Int32 × fhM) ⊕ (Int64 × fhM)) (h : f_X12_qTold_162 v1 v2 σ = some o) (hk : (fhK (fun x => fhW fhYM Γ 7 [(0, .ref 0), (1, .int v1), (2, .int x.1)] [] x.2) (fun o => fhRet Γ (some (.long o.1)) o.2)) o) : fhW fhYM Γ 162 [(0, .ref 0), (1, .int v1), (2, .int v2)] [] σ := by
  unfold f_X12_qTold_162 at h
  refine fhW.blk fhPM fhLL hΓ [(.iinc 2 1, 1)] (pc' := 165) (lv' := [(2, .int (v2 + (1 : Int32))), (0, .ref 0), (1, .int v1)]) (st' := []) (σ' := σ) (by decide +kernel) rfl rfl rfl ?_
  refine fhW.goto hΓ (off := (-158)) (tgt := 7) (by decide +kernel) ?_
  refine fhW.sub (lv' := [(0, .ref 0), (1, .int v1), (2, .int (v2 + (1 : Int32)))]) [1, 2, 0] rfl ?_
  have e9 := Option.some.inj h
  subst e9
  exact hk
set_option maxRecDepth 100000 in
set_option maxHeartbeats 4000000 in
theorem L_X12_qTold_7 {Γ : fhX} (hΓ : fhOk fhYM 12 cX12_qTold 4 (some .long) Γ) (hd : 3 ≤ fhD Γ) (v1 : Int32) (v2 : Int32)  (σ : fhM) (o : (Int32 × fhM) ⊕ (Int64 × fhM)) (h : f_X12_qTold_7 v1 v2 σ = some o) (hk : (fhK (fun x => fhW fhYM Γ 7 [(0, .ref 0), (1, .int v1), (2, .int x.1)] [] x.2) (fun o => fhRet Γ (some (.long o.1)) o.2)) o) : fhW fhYM Γ 7 [(0, .ref 0), (1, .int v1), (2, .int v2)] [] σ := by
  unfold f_X12_qTold_7 at h
  refine fhW.blk fhPM fhLL hΓ [(.iload_n 2, 0), (.aload_n 0, 0), (.getfield 350, 0)] (pc' := 12) (lv' := [(0, .ref 0), (1, .int v1), (2, .int v2)]) (st' := [.int (σ.1 0 99), .int v2]) (σ' := σ) (by decide +kernel) rfl rfl rfl ?_
  refine fhW.i_ge hΓ (tgt := 168) (show fhbk _ _ (.if_icmp .ge (156)) _ = true by decide +kernel) (fun hc => ?_) (fun hc => ?_)
  · rw [if_pos hc] at h
    refine fhW.blk fhPM fhLL hΓ [(.aload_n 0, 0), (.getfield 253, 0), (.iconst 0, 0), (.laload, 0)] (pc' := 174) (lv' := [(0, .ref 0), (1, .int v1), (2, .int v2)]) (st' := [.long (σ.2.1 78 0)]) (σ' := σ) (by decide +kernel) rfl rfl rfl ?_
    have e9 := Option.some.inj h
    subst e9
    exact fhW.lret hΓ (by decide +kernel) hk
  · rw [if_neg hc] at h
    obtain ⟨hg1, h⟩ := fhif h
    refine fhW.blk fhPM fhLL hΓ [(.aload_n 0, 0), (.getfield 247, 0), (.iload_n 2, 0), (.iaload, 0), (.istore_n 3, 0), (.iload_n 3, 0), (.sipush 1000, 1000)] (pc' := 26) (lv' := [(3, .int (σ.1 76 (fhix v2))), (0, .ref 0), (1, .int v1), (2, .int v2)]) (st' := [.int (1000 : Int32), .int (σ.1 76 (fhix v2))]) (σ' := σ) (by decide +kernel) rfl rfl hg1 ?_
    refine fhW.i_lt hΓ (tgt := 42) (show fhbk _ _ (.if_icmp .lt (16)) _ = true by decide +kernel) (fun hc => ?_) (fun hc => ?_)
    · rw [if_pos hc] at h
      refine fhW.blk fhPM fhLL hΓ [(.iload_n 3, 0), (.bipush 60, 60)] (pc' := 45) (lv' := [(3, .int (σ.1 76 (fhix v2))), (0, .ref 0), (1, .int v1), (2, .int v2)]) (st' := [.int (60 : Int32), .int (σ.1 76 (fhix v2))]) (σ' := σ) (by decide +kernel) rfl rfl rfl ?_
      refine fhW.i_lt hΓ (tgt := 85) (show fhbk _ _ (.if_icmp .lt (40)) _ = true by decide +kernel) (fun hc => ?_) (fun hc => ?_)
      · rw [if_pos hc] at h
        refine fhW.blk fhPM fhLL hΓ [(.iload_n 3, 0), (.bipush 40, 40)] (pc' := 88) (lv' := [(3, .int (σ.1 76 (fhix v2))), (0, .ref 0), (1, .int v1), (2, .int v2)]) (st' := [.int (40 : Int32), .int (σ.1 76 (fhix v2))]) (σ' := σ) (by decide +kernel) rfl rfl rfl ?_
        refine fhW.i_lt hΓ (tgt := 110) (show fhbk _ _ (.if_icmp .lt (22)) _ = true by decide +kernel) (fun hc => ?_) (fun hc => ?_)
        · rw [if_pos hc] at h
          refine fhW.blk fhPM fhLL hΓ [(.iload_n 3, 0), (.bipush 13, 13)] (pc' := 113) (lv' := [(3, .int (σ.1 76 (fhix v2))), (0, .ref 0), (1, .int v1), (2, .int v2)]) (st' := [.int (13 : Int32), .int (σ.1 76 (fhix v2))]) (σ' := σ) (by decide +kernel) rfl rfl rfl ?_
          refine fhW.i_ne hΓ (tgt := 124) (show fhbk _ _ (.if_icmp .ne (11)) _ = true by decide +kernel) (fun hc => ?_) (fun hc => ?_)
          · rw [if_neg hc] at h
            refine fhW.blk fhPM fhLL hΓ [(.iload_n 3, 0), (.bipush 12, 12)] (pc' := 127) (lv' := [(3, .int (σ.1 76 (fhix v2))), (0, .ref 0), (1, .int v1), (2, .int v2)]) (st' := [.int (12 : Int32), .int (σ.1 76 (fhix v2))]) (σ' := σ) (by decide +kernel) rfl rfl rfl ?_
            refine fhW.i_ne hΓ (tgt := 157) (show fhbk _ _ (.if_icmp .ne (30)) _ = true by decide +kernel) (fun hc => ?_) (fun hc => ?_)
            · rw [if_neg hc] at h
              refine fhW.blk fhPM fhLL hΓ [(.aload_n 0, 0), (.iload_n 3, 0)] (pc' := 159) (lv' := [(3, .int (σ.1 76 (fhix v2))), (0, .ref 0), (1, .int v1), (2, .int v2)]) (st' := [.int (σ.1 76 (fhix v2)), .ref 0]) (σ' := σ) (by decide +kernel) rfl rfl rfl ?_
              obtain ⟨q1, hb1, h⟩ := Option.bind_eq_some_iff.mp h
              refine fhW.callv hΓ mvX12_qJoins ml_12_686 (t := 0) (ci := 12) (av := [.int (σ.1 76 (fhix v2))]) (rest := []) (r := none) (σ' := q1) (T_X12_qJoins (E := fhEn Γ) (d := fhD Γ - 1) (by omega) (σ.1 76 (fhix v2)) σ hb1) (by omega) (by decide +kernel) rfl rfl rfl (Nat.le_of_ble_eq_true rfl) rfl ?_
              show fhW fhYM Γ 162 [(3, .int (σ.1 76 (fhix v2))), (0, .ref 0), (1, .int v1), (2, .int v2)] [] q1
              refine fhW.sub (lv' := [(0, .ref 0), (1, .int v1), (2, .int v2)]) [1, 2, 3] rfl ?_
              exact L_X12_qTold_162 hΓ hd v1 v2 q1 _ h hk
            · rw [if_pos hc] at h
              obtain ⟨hg2, h⟩ := fhif h
              refine fhW.blk fhPM fhLL hΓ [(.aload_n 0, 0), (.getfield 253, 0), (.aload_n 0, 0), (.getfield 651, 0), (.iconst 1, 1), (.isub, 0), (.lconst 1, 0), (.aload_n 0, 0), (.getfield 253, 0), (.aload_n 0, 0), (.getfield 651, 0), (.iconst 1, 1), (.isub, 0), (.laload, 0), (.lsub, 0), (.lastore, 0)] (pc' := 154) (lv' := [(3, .int (σ.1 76 (fhix v2))), (0, .ref 0), (1, .int v1), (2, .int v2)]) (st' := []) (σ' := (fhJ σ 78 (fhix ((σ.1 0 105) - (1 : Int32))) ((1 : Int64) - (σ.2.1 78 (fhix ((σ.1 0 105) - (1 : Int32))))))) (by decide +kernel) rfl rfl hg2 ?_
              refine fhW.goto hΓ (off := 8) (tgt := 162) (by decide +kernel) ?_
              refine fhW.sub (lv' := [(0, .ref 0), (1, .int v1), (2, .int v2)]) [1, 2, 3] rfl ?_
              exact L_X12_qTold_162 hΓ hd v1 v2 (fhJ σ 78 (fhix ((σ.1 0 105) - (1 : Int32))) ((1 : Int64) - (σ.2.1 78 (fhix ((σ.1 0 105) - (1 : Int32)))))) _ h hk
          · rw [if_pos hc] at h
            refine fhW.blk fhPM fhLL hΓ [(.aload_n 0, 0), (.lconst 1, 0)] (pc' := 118) (lv' := [(3, .int (σ.1 76 (fhix v2))), (0, .ref 0), (1, .int v1), (2, .int v2)]) (st' := [.long (1 : Int64), .ref 0]) (σ' := σ) (by decide +kernel) rfl rfl rfl ?_
            obtain ⟨q2, hb2, h⟩ := Option.bind_eq_some_iff.mp h
            refine fhW.callv hΓ mvX12_qPuts ml_12_658 (t := 0) (ci := 12) (av := [.long (1 : Int64)]) (rest := []) (r := none) (σ' := q2) (T_X12_qPuts (E := fhEn Γ) (d := fhD Γ - 1) (by omega) (1 : Int64) σ hb2) (by omega) (by decide +kernel) rfl rfl rfl (Nat.le_of_ble_eq_true rfl) rfl ?_
            show fhW fhYM Γ 121 [(3, .int (σ.1 76 (fhix v2))), (0, .ref 0), (1, .int v1), (2, .int v2)] [] q2
            refine fhW.goto hΓ (off := 41) (tgt := 162) (by decide +kernel) ?_
            refine fhW.sub (lv' := [(0, .ref 0), (1, .int v1), (2, .int v2)]) [1, 2, 3] rfl ?_
            exact L_X12_qTold_162 hΓ hd v1 v2 q2 _ h hk
        · rw [if_neg hc] at h
          refine fhW.blk fhPM fhLL hΓ [(.aload_n 0, 0), (.aload_n 0, 0), (.iload_n 3, 0), (.bipush 40, 40), (.isub, 0), (.iload_n 1, 0)] (pc' := 98) (lv' := [(3, .int (σ.1 76 (fhix v2))), (0, .ref 0), (1, .int v1), (2, .int v2)]) (st' := [.int v1, .int ((σ.1 76 (fhix v2)) - (40 : Int32)), .ref 0, .ref 0]) (σ' := σ) (by decide +kernel) rfl rfl rfl ?_
          obtain ⟨q3, hb3, h⟩ := Option.bind_eq_some_iff.mp h
          refine fhW.callv hΓ mvX12_qPartOf ml_12_682 (t := 0) (ci := 12) (av := [.int ((σ.1 76 (fhix v2)) - (40 : Int32)), .int v1]) (rest := [.ref 0]) (r := (some (.long q3))) (σ' := σ) (T_X12_qPartOf (E := fhEn Γ) (d := fhD Γ - 1) (by omega) ((σ.1 76 (fhix v2)) - (40 : Int32)) v1 σ hb3) (by omega) (by decide +kernel) rfl rfl rfl (Nat.le_of_ble_eq_true rfl) rfl ?_
          show fhW fhYM Γ 101 [(3, .int (σ.1 76 (fhix v2))), (0, .ref 0), (1, .int v1), (2, .int v2)] [.long q3, .ref 0] σ
          refine fhW.calls hΓ msX12_qClip ml_12_654 (av := [.long q3]) (rest := [.ref 0]) (r := (some (.long (f_X12_qClip q3 σ)))) (σ' := σ) (T_X12_qClip (E := fhEn Γ) (d := fhD Γ - 1) (by omega) q3 σ) (by omega) (by decide +kernel) rfl (Nat.le_of_ble_eq_true rfl) rfl ?_
          show fhW fhYM Γ 104 [(3, .int (σ.1 76 (fhix v2))), (0, .ref 0), (1, .int v1), (2, .int v2)] [.long (f_X12_qClip q3 σ), .ref 0] σ
          obtain ⟨q4, hb4, h⟩ := Option.bind_eq_some_iff.mp h
          refine fhW.callv hΓ mvX12_qPuts ml_12_658 (t := 0) (ci := 12) (av := [.long (f_X12_qClip q3 σ)]) (rest := []) (r := none) (σ' := q4) (T_X12_qPuts (E := fhEn Γ) (d := fhD Γ - 1) (by omega) (f_X12_qClip q3 σ) σ hb4) (by omega) (by decide +kernel) rfl rfl rfl (Nat.le_of_ble_eq_true rfl) rfl ?_
          show fhW fhYM Γ 107 [(3, .int (σ.1 76 (fhix v2))), (0, .ref 0), (1, .int v1), (2, .int v2)] [] q4
          refine fhW.goto hΓ (off := 55) (tgt := 162) (by decide +kernel) ?_
          refine fhW.sub (lv' := [(0, .ref 0), (1, .int v1), (2, .int v2)]) [1, 2, 3] rfl ?_
          exact L_X12_qTold_162 hΓ hd v1 v2 q4 _ h hk
      · rw [if_neg hc] at h
        obtain ⟨hg3, h⟩ := fhif h
        refine fhW.blk fhPM fhLL hΓ [(.aload_n 0, 0), (.getfield 253, 0), (.aload_n 0, 0), (.getfield 651, 0), (.iconst 1, 1), (.isub, 0), (.aload_n 0, 0), (.iload_n 3, 0), (.bipush 60, 60), (.isub, 0), (.aload_n 0, 0), (.getfield 253, 0), (.aload_n 0, 0), (.getfield 651, 0), (.iconst 1, 1), (.isub, 0), (.laload, 0), (.iload_n 1, 0)] (pc' := 75) (lv' := [(3, .int (σ.1 76 (fhix v2))), (0, .ref 0), (1, .int v1), (2, .int v2)]) (st' := [.int v1, .long (σ.2.1 78 (fhix ((σ.1 0 105) - (1 : Int32)))), .int ((σ.1 76 (fhix v2)) - (60 : Int32)), .ref 0, .int ((σ.1 0 105) - (1 : Int32)), .ref 78]) (σ' := σ) (by decide +kernel) rfl rfl hg3 ?_
        obtain ⟨q5, hb5, h⟩ := Option.bind_eq_some_iff.mp h
        refine fhW.callv hΓ mvX12_qOf ml_12_678 (t := 0) (ci := 12) (av := [.int ((σ.1 76 (fhix v2)) - (60 : Int32)), .long (σ.2.1 78 (fhix ((σ.1 0 105) - (1 : Int32)))), .int v1]) (rest := [.int ((σ.1 0 105) - (1 : Int32)), .ref 78]) (r := (some (.long q5))) (σ' := σ) (T_X12_qOf (E := fhEn Γ) (d := fhD Γ - 1) (by omega) ((σ.1 76 (fhix v2)) - (60 : Int32)) (σ.2.1 78 (fhix ((σ.1 0 105) - (1 : Int32)))) v1 σ hb5) (by omega) (by decide +kernel) rfl rfl rfl (Nat.le_of_ble_eq_true rfl) rfl ?_
        show fhW fhYM Γ 78 [(3, .int (σ.1 76 (fhix v2))), (0, .ref 0), (1, .int v1), (2, .int v2)] [.long q5, .int ((σ.1 0 105) - (1 : Int32)), .ref 78] σ
        refine fhW.calls hΓ msX12_qClip ml_12_654 (av := [.long q5]) (rest := [.int ((σ.1 0 105) - (1 : Int32)), .ref 78]) (r := (some (.long (f_X12_qClip q5 σ)))) (σ' := σ) (T_X12_qClip (E := fhEn Γ) (d := fhD Γ - 1) (by omega) q5 σ) (by omega) (by decide +kernel) rfl (Nat.le_of_ble_eq_true rfl) rfl ?_
        show fhW fhYM Γ 81 [(3, .int (σ.1 76 (fhix v2))), (0, .ref 0), (1, .int v1), (2, .int v2)] [.long (f_X12_qClip q5 σ), .int ((σ.1 0 105) - (1 : Int32)), .ref 78] σ
        obtain ⟨hg4, h⟩ := fhif h
        refine fhW.blk fhPM fhLL hΓ [(.lastore, 0)] (pc' := 82) (lv' := [(3, .int (σ.1 76 (fhix v2))), (0, .ref 0), (1, .int v1), (2, .int v2)]) (st' := []) (σ' := (fhJ σ 78 (fhix ((σ.1 0 105) - (1 : Int32))) (f_X12_qClip q5 σ))) (by decide +kernel) rfl rfl hg4 ?_
        refine fhW.goto hΓ (off := 80) (tgt := 162) (by decide +kernel) ?_
        refine fhW.sub (lv' := [(0, .ref 0), (1, .int v1), (2, .int v2)]) [1, 2, 3] rfl ?_
        exact L_X12_qTold_162 hΓ hd v1 v2 (fhJ σ 78 (fhix ((σ.1 0 105) - (1 : Int32))) (f_X12_qClip q5 σ)) _ h hk
    · rw [if_neg hc] at h
      refine fhW.blk fhPM fhLL hΓ [(.aload_n 0, 0), (.iload_n 3, 0), (.sipush 1000, 1000), (.isub, 0), (.i2l, 0)] (pc' := 36) (lv' := [(3, .int (σ.1 76 (fhix v2))), (0, .ref 0), (1, .int v1), (2, .int v2)]) (st' := [.long (Int32.toInt64 ((σ.1 76 (fhix v2)) - (1000 : Int32))), .ref 0]) (σ' := σ) (by decide +kernel) rfl rfl rfl ?_
      obtain ⟨q6, hb6, h⟩ := Option.bind_eq_some_iff.mp h
      refine fhW.callv hΓ mvX12_qPuts ml_12_658 (t := 0) (ci := 12) (av := [.long (Int32.toInt64 ((σ.1 76 (fhix v2)) - (1000 : Int32)))]) (rest := []) (r := none) (σ' := q6) (T_X12_qPuts (E := fhEn Γ) (d := fhD Γ - 1) (by omega) (Int32.toInt64 ((σ.1 76 (fhix v2)) - (1000 : Int32))) σ hb6) (by omega) (by decide +kernel) rfl rfl rfl (Nat.le_of_ble_eq_true rfl) rfl ?_
      show fhW fhYM Γ 39 [(3, .int (σ.1 76 (fhix v2))), (0, .ref 0), (1, .int v1), (2, .int v2)] [] q6
      refine fhW.goto hΓ (off := 123) (tgt := 162) (by decide +kernel) ?_
      refine fhW.sub (lv' := [(0, .ref 0), (1, .int v1), (2, .int v2)]) [1, 2, 3] rfl ?_
      exact L_X12_qTold_162 hΓ hd v1 v2 q6 _ h hk
set_option maxRecDepth 100000 in
set_option maxHeartbeats 4000000 in
theorem L_X12_qTold_E {Γ : fhX} (hΓ : fhOk fhYM 12 cX12_qTold 4 (some .long) Γ) (hd : 3 ≤ fhD Γ) (v1 : Int32)  (σ : fhM) (o : Int64 × fhM) (h : f_X12_qTold v1 σ = some o) (hk : (fun o => fhRet Γ (some (.long o.1)) o.2) o) : fhW fhYM Γ 0 [(0, .ref 0), (1, .int v1)] [] σ := by
  unfold f_X12_qTold at h
  refine fhW.blk fhPM fhLL hΓ [(.aload_n 0, 0), (.iconst 0, 0), (.putfield 651, 0), (.iconst 0, 0), (.istore_n 2, 0)] (pc' := 7) (lv' := [(2, .int (0 : Int32)), (0, .ref 0), (1, .int v1)]) (st' := []) (σ' := (fhI σ 0 105 (0 : Int32))) (by decide +kernel) rfl rfl rfl ?_
  refine fhW.sub (lv' := [(0, .ref 0), (1, .int v1), (2, .int (0 : Int32))]) [1, 2, 0] rfl ?_
  exact fhlp_ok (W := (fun x => fhW fhYM Γ 7 [(0, .ref 0), (1, .int v1), (2, .int x.1)] [] x.2)) (B := (fun o => fhRet Γ (some (.long o.1)) o.2)) (fun x o h hk => L_X12_qTold_7 hΓ hd v1 x.1 x.2 o h hk) ((0 : Int32), (fhI σ 0 105 (0 : Int32))) _ h hk
set_option maxRecDepth 100000 in
theorem T_X12_qTold {E : fhE} {d : Nat} (hd : 3 ≤ d) (v1 : Int32)  (σ : fhM) {o : Int64 × fhM} (h : f_X12_qTold v1 σ = some o) : fhC fhYM E d miX12_qTold [.ref 0, .int v1] σ (some (.long o.1)) o.2 := by
  refine fhC.of (y := yX12_qTold) (cc := cX12_qTold) (nL := 4) (ret := (some .long)) 12 rfl (by decide +kernel) (Nat.le_of_ble_eq_true rfl) ?_
  intro Γ hΓ hR hD hEn
  subst hD; subst hEn
  exact L_X12_qTold_E hΓ hd v1  σ _ h hR
set_option maxRecDepth 100000 in
set_option maxHeartbeats 4000000 in
theorem L_X12_rulesHold_64 {Γ : fhX} (hΓ : fhOk fhYM 12 cX12_rulesHold 2 none Γ) (hd : 4 ≤ fhD Γ) (v1 : Int32)  (σ : fhM) (o : (Int32 × fhM) ⊕ (fhM)) (h : f_X12_rulesHold_64 v1 σ = some o) (hk : (fhK (fun x => fhW fhYM Γ 2 [(0, .ref 0), (1, .int x.1)] [] x.2) (fun o => fhRet Γ none o)) o) : fhW fhYM Γ 64 [(0, .ref 0), (1, .int v1)] [] σ := by
  unfold f_X12_rulesHold_64 at h
  refine fhW.blk fhPM fhLL hΓ [(.iinc 1 1, 1)] (pc' := 67) (lv' := [(1, .int (v1 + (1 : Int32))), (0, .ref 0)]) (st' := []) (σ' := σ) (by decide +kernel) rfl rfl rfl ?_
  refine fhW.goto hΓ (off := (-65)) (tgt := 2) (by decide +kernel) ?_
  refine fhW.sub (lv' := [(0, .ref 0), (1, .int (v1 + (1 : Int32)))]) [1, 0] rfl ?_
  have e9 := Option.some.inj h
  subst e9
  exact hk
set_option maxRecDepth 100000 in
set_option maxHeartbeats 4000000 in
theorem L_X12_rulesHold_2 {Γ : fhX} (hΓ : fhOk fhYM 12 cX12_rulesHold 2 none Γ) (hd : 4 ≤ fhD Γ) (v1 : Int32)  (σ : fhM) (o : (Int32 × fhM) ⊕ (fhM)) (h : f_X12_rulesHold_2 v1 σ = some o) (hk : (fhK (fun x => fhW fhYM Γ 2 [(0, .ref 0), (1, .int x.1)] [] x.2) (fun o => fhRet Γ none o)) o) : fhW fhYM Γ 2 [(0, .ref 0), (1, .int v1)] [] σ := by
  unfold f_X12_rulesHold_2 at h
  refine fhW.blk fhPM fhLL hΓ [(.iload_n 1, 0), (.aload_n 0, 0), (.getfield 99, 0), (.iconst 2, 2), (.iaload, 0)] (pc' := 9) (lv' := [(0, .ref 0), (1, .int v1)]) (st' := [.int (σ.1 29 2), .int v1]) (σ' := σ) (by decide +kernel) rfl rfl rfl ?_
  refine fhW.i_ge hΓ (tgt := 70) (show fhbk _ _ (.if_icmp .ge (61)) _ = true by decide +kernel) (fun hc => ?_) (fun hc => ?_)
  · rw [if_pos hc] at h
    have e9 := Option.some.inj h
    subst e9
    exact fhW.vret hΓ (by decide +kernel) hk
  · rw [if_neg hc] at h
    refine fhW.blk fhPM fhLL hΓ [(.aload_n 0, 0), (.getfield 262, 0)] (pc' := 16) (lv' := [(0, .ref 0), (1, .int v1)]) (st' := [.int (σ.1 0 5)]) (σ' := σ) (by decide +kernel) rfl rfl rfl ?_
    refine fhW.z_ne hΓ (tgt := 70) (show fhbk _ _ (.ifCond .ne (54)) _ = true by decide +kernel) (fun hc => ?_) (fun hc => ?_)
    · rw [if_neg hc] at h
      have e9 := Option.some.inj h
      subst e9
      exact fhW.vret hΓ (by decide +kernel) hk
    · rw [if_pos hc] at h
      refine fhW.blk fhPM fhLL hΓ [(.aload_n 0, 0), (.iload_n 1, 0)] (pc' := 21) (lv' := [(0, .ref 0), (1, .int v1)]) (st' := [.int v1, .ref 0]) (σ' := σ) (by decide +kernel) rfl rfl rfl ?_
      obtain ⟨q1, hb1, h⟩ := Option.bind_eq_some_iff.mp h
      refine fhW.callv hΓ mvX12_loadsTest ml_12_391 (t := 0) (ci := 12) (av := [.int v1]) (rest := []) (r := none) (σ' := q1) (T_X12_loadsTest (E := fhEn Γ) (d := fhD Γ - 1) (by omega) v1 σ hb1) (by omega) (by decide +kernel) rfl rfl rfl (Nat.le_of_ble_eq_true rfl) rfl ?_
      show fhW fhYM Γ 24 [(0, .ref 0), (1, .int v1)] [] q1
      refine fhW.blk fhPM fhLL hΓ [(.aload_n 0, 0), (.aload_n 0, 0)] (pc' := 26) (lv' := [(0, .ref 0), (1, .int v1)]) (st' := [.ref 0, .ref 0]) (σ' := q1) (by decide +kernel) rfl rfl rfl ?_
      obtain ⟨q2, hb2, h⟩ := Option.bind_eq_some_iff.mp h
      refine fhW.callv hΓ mvX12_wornRow ml_12_394 (t := 0) (ci := 12) (av := []) (rest := [.ref 0]) (r := (some (.int q2))) (σ' := q1) (T_X12_wornRow (E := fhEn Γ) (d := fhD Γ - 1) (by omega) q1 hb2) (by omega) (by decide +kernel) rfl rfl rfl (Nat.le_of_ble_eq_true rfl) rfl ?_
      show fhW fhYM Γ 29 [(0, .ref 0), (1, .int v1)] [.int q2, .ref 0] q1
      refine fhW.blk fhPM fhLL hΓ [(.aload_n 0, 0), (.getfield 99, 0), (.iconst 0, 0), (.iaload, 0), (.aload_n 0, 0), (.getfield 99, 0), (.iconst 1, 1), (.iaload, 0)] (pc' := 41) (lv' := [(0, .ref 0), (1, .int v1)]) (st' := [.int (q1.1 29 1), .int (q1.1 29 0), .int q2, .ref 0]) (σ' := q1) (by decide +kernel) rfl rfl rfl ?_
      obtain ⟨q3, hb3, h⟩ := Option.bind_eq_some_iff.mp h
      refine fhW.callv hΓ mvX12_laysRow ml_12_397 (t := 0) (ci := 12) (av := [.int q2, .int (q1.1 29 0), .int (q1.1 29 1)]) (rest := []) (r := none) (σ' := q3) (T_X12_laysRow (E := fhEn Γ) (d := fhD Γ - 1) (by omega) q2 (q1.1 29 0) (q1.1 29 1) q1 hb3) (by omega) (by decide +kernel) rfl rfl rfl (Nat.le_of_ble_eq_true rfl) rfl ?_
      show fhW fhYM Γ 44 [(0, .ref 0), (1, .int v1)] [] q3
      refine fhW.blk fhPM fhLL hΓ [(.aload_n 0, 0), (.iconst 0, 0)] (pc' := 46) (lv' := [(0, .ref 0), (1, .int v1)]) (st' := [.int (0 : Int32), .ref 0]) (σ' := q3) (by decide +kernel) rfl rfl rfl ?_
      obtain ⟨q4, hb4, h⟩ := Option.bind_eq_some_iff.mp h
      refine fhW.callv hΓ mvX12_qTold ml_12_400 (t := 0) (ci := 12) (av := [.int (0 : Int32)]) (rest := []) (r := (some (.long q4.1))) (σ' := q4.2) (T_X12_qTold (E := fhEn Γ) (d := fhD Γ - 1) (by omega) (0 : Int32) q3 hb4) (by omega) (by decide +kernel) rfl rfl rfl (Nat.le_of_ble_eq_true rfl) rfl ?_
      show fhW fhYM Γ 49 [(0, .ref 0), (1, .int v1)] [.long q4.1] q4.2
      refine fhW.blk fhPM fhLL hΓ [(.lconst 1, 0), (.lcmp, 0)] (pc' := 51) (lv' := [(0, .ref 0), (1, .int v1)]) (st' := [.int (lg_cmp q4.1 (1 : Int64))]) (σ' := q4.2) (by decide +kernel) rfl rfl rfl ?_
      refine fhW.z_eq hΓ (tgt := 64) (show fhbk _ _ (.ifCond .eq (13)) _ = true by decide +kernel) (fun hc => ?_) (fun hc => ?_)
      · rw [if_pos hc] at h
        refine fhW.sub (lv' := [(0, .ref 0), (1, .int v1)]) [0, 1] rfl ?_
        exact L_X12_rulesHold_64 hΓ hd v1 q4.2 _ h hk
      · rw [if_neg hc] at h
        refine fhW.blk fhPM fhLL hΓ [(.aload_n 0, 0), (.bipush 6, 6), (.aload_n 0, 0), (.getfield 271, 0)] (pc' := 61) (lv' := [(0, .ref 0), (1, .int v1)]) (st' := [.int (q4.2.1 0 3), .int (6 : Int32), .ref 0]) (σ' := q4.2) (by decide +kernel) rfl rfl rfl ?_
        refine fhW.callv hΓ mvX12_fail ml_12_292 (t := 0) (ci := 12) (av := [.int (6 : Int32), .int (q4.2.1 0 3)]) (rest := []) (r := none) (σ' := (f_X12_fail (6 : Int32) (q4.2.1 0 3) q4.2)) (T_X12_fail (E := fhEn Γ) (d := fhD Γ - 1) (by omega) (6 : Int32) (q4.2.1 0 3) q4.2) (by omega) (by decide +kernel) rfl rfl rfl (Nat.le_of_ble_eq_true rfl) rfl ?_
        show fhW fhYM Γ 64 [(0, .ref 0), (1, .int v1)] [] (f_X12_fail (6 : Int32) (q4.2.1 0 3) q4.2)
        obtain ⟨q5, e1, h⟩ := fhlet_elim h
        rw [← e1]
        refine fhW.sub (lv' := [(0, .ref 0), (1, .int v1)]) [0, 1] rfl ?_
        exact L_X12_rulesHold_64 hΓ hd v1 q5 _ h hk
set_option maxRecDepth 100000 in
set_option maxHeartbeats 4000000 in
theorem L_X12_rulesHold_E {Γ : fhX} (hΓ : fhOk fhYM 12 cX12_rulesHold 2 none Γ) (hd : 4 ≤ fhD Γ)   (σ : fhM) (o : fhM) (h : f_X12_rulesHold σ = some o) (hk : (fun o => fhRet Γ none o) o) : fhW fhYM Γ 0 [(0, .ref 0)] [] σ := by
  unfold f_X12_rulesHold at h
  refine fhW.blk fhPM fhLL hΓ [(.iconst 0, 0), (.istore_n 1, 0)] (pc' := 2) (lv' := [(1, .int (0 : Int32)), (0, .ref 0)]) (st' := []) (σ' := σ) (by decide +kernel) rfl rfl rfl ?_
  refine fhW.sub (lv' := [(0, .ref 0), (1, .int (0 : Int32))]) [1, 0] rfl ?_
  exact fhlp_ok (W := (fun x => fhW fhYM Γ 2 [(0, .ref 0), (1, .int x.1)] [] x.2)) (B := (fun o => fhRet Γ none o)) (fun x o h hk => L_X12_rulesHold_2 hΓ hd x.1 x.2 o h hk) ((0 : Int32), σ) _ h hk
set_option maxRecDepth 100000 in
theorem T_X12_rulesHold {E : fhE} {d : Nat} (hd : 4 ≤ d)   (σ : fhM) {o : fhM} (h : f_X12_rulesHold σ = some o) : fhC fhYM E d miX12_rulesHold [.ref 0] σ none o := by
  refine fhC.of (y := yX12_rulesHold) (cc := cX12_rulesHold) (nL := 2) (ret := none) 12 rfl (by decide +kernel) (Nat.le_of_ble_eq_true rfl) ?_
  intro Γ hΓ hR hD hEn
  subst hD; subst hEn
  exact L_X12_rulesHold_E hΓ hd   σ _ h hR
set_option maxRecDepth 100000 in
set_option maxHeartbeats 4000000 in
theorem L_X12_refuses_E {Γ : fhX} (hΓ : fhOk fhYM 12 cX12_refuses 2 (some .int) Γ) (hd : 0 ≤ fhD Γ) (v1 : Int32)  (σ : fhM) (o : Int32 × fhM) (h : f_X12_refuses v1 σ = some o) (hk : (fun o => fhRet Γ (some (.int o.1)) o.2) o) : fhW fhYM Γ 0 [(0, .ref 0), (1, .int v1)] [] σ := by
  unfold f_X12_refuses at h
  obtain ⟨hg1, h⟩ := fhif h
  refine fhW.blk fhPM fhLL hΓ [(.aload_n 0, 0), (.getfield 17, 0), (.iload_n 1, 0), (.dup2, 0), (.iaload, 0), (.iconst 1, 1), (.iadd, 0), (.iastore, 0), (.iconst (-1), -1)] (pc' := 11) (lv' := [(0, .ref 0), (1, .int v1)]) (st' := [.int (-1 : Int32)]) (σ' := (fhI σ 2 (fhix v1) ((σ.1 2 (fhix v1)) + (1 : Int32)))) (by decide +kernel) rfl rfl hg1 ?_
  have e9 := Option.some.inj h
  subst e9
  exact fhW.iret hΓ (by decide +kernel) hk
set_option maxRecDepth 100000 in
theorem T_X12_refuses {E : fhE} {d : Nat} (hd : 0 ≤ d) (v1 : Int32)  (σ : fhM) {o : Int32 × fhM} (h : f_X12_refuses v1 σ = some o) : fhC fhYM E d miX12_refuses [.ref 0, .int v1] σ (some (.int o.1)) o.2 := by
  refine fhC.of (y := yX12_refuses) (cc := cX12_refuses) (nL := 2) (ret := (some .int)) 12 rfl (by decide +kernel) (Nat.le_of_ble_eq_true rfl) ?_
  intro Γ hΓ hR hD hEn
  subst hD; subst hEn
  exact L_X12_refuses_E hΓ hd v1  σ _ h hR
set_option maxRecDepth 100000 in
set_option maxHeartbeats 4000000 in
theorem L_X12_keyOf_49 {Γ : fhX} (hΓ : fhOk fhYM 12 cX12_keyOf 5 (some .int) Γ) (hd : 2 ≤ fhD Γ) (v1 : Int32) (v2 : Int32) (v4 : Int32) (s0 : Int32) (s1 : Int32)  (σ : fhM) (o : (Int32 × Int32) ⊕ (Int32)) (h : f_X12_keyOf_49 v1 v2 v4 s0 s1 σ = some o) (hk : (fhK (fun x => fhW fhYM Γ 10 [(0, .ref 0), (1, .int v1), (2, .int v2), (3, .int x.1), (4, .int x.2)] [] σ) (fun o => fhRet Γ (some (.int o)) σ)) o) : fhW fhYM Γ 49 [(0, .ref 0), (1, .int v1), (2, .int v2), (4, .int v4)] [.int s0, .int s1] σ := by
  unfold f_X12_keyOf_49 at h
  refine fhW.blk fhPM fhLL hΓ [(.iadd, 0), (.istore_n 3, 0), (.iinc 4 (-1), -1)] (pc' := 54) (lv' := [(4, .int (v4 + (-1 : Int32))), (3, .int (s1 + s0)), (0, .ref 0), (1, .int v1), (2, .int v2)]) (st' := []) (σ' := σ) (by decide +kernel) rfl rfl rfl ?_
  refine fhW.goto hΓ (off := (-44)) (tgt := 10) (by decide +kernel) ?_
  refine fhW.sub (lv' := [(0, .ref 0), (1, .int v1), (2, .int v2), (3, .int (s1 + s0)), (4, .int (v4 + (-1 : Int32)))]) [2, 3, 4, 1, 0] rfl ?_
  have e9 := Option.some.inj h
  subst e9
  exact hk
set_option maxRecDepth 100000 in
set_option maxHeartbeats 4000000 in
theorem L_X12_keyOf_10 {Γ : fhX} (hΓ : fhOk fhYM 12 cX12_keyOf 5 (some .int) Γ) (hd : 2 ≤ fhD Γ) (v1 : Int32) (v2 : Int32) (v3 : Int32) (v4 : Int32)  (σ : fhM) (o : (Int32 × Int32) ⊕ (Int32)) (h : f_X12_keyOf_10 v1 v2 v3 v4 σ = some o) (hk : (fhK (fun x => fhW fhYM Γ 10 [(0, .ref 0), (1, .int v1), (2, .int v2), (3, .int x.1), (4, .int x.2)] [] σ) (fun o => fhRet Γ (some (.int o)) σ)) o) : fhW fhYM Γ 10 [(0, .ref 0), (1, .int v1), (2, .int v2), (3, .int v3), (4, .int v4)] [] σ := by
  unfold f_X12_keyOf_10 at h
  refine fhW.blk fhPM fhLL hΓ [(.iload 4, 0)] (pc' := 12) (lv' := [(0, .ref 0), (1, .int v1), (2, .int v2), (3, .int v3), (4, .int v4)]) (st' := [.int v4]) (σ' := σ) (by decide +kernel) rfl rfl rfl ?_
  refine fhW.z_lt hΓ (tgt := 57) (show fhbk _ _ (.ifCond .lt (45)) _ = true by decide +kernel) (fun hc => ?_) (fun hc => ?_)
  · rw [if_pos hc] at h
    refine fhW.blk fhPM fhLL hΓ [(.iload_n 3, 0)] (pc' := 58) (lv' := [(0, .ref 0), (1, .int v1), (2, .int v2), (3, .int v3), (4, .int v4)]) (st' := [.int v3]) (σ' := σ) (by decide +kernel) rfl rfl rfl ?_
    have e9 := Option.some.inj h
    subst e9
    exact fhW.iret hΓ (by decide +kernel) hk
  · rw [if_neg hc] at h
    refine fhW.blk fhPM fhLL hΓ [(.aload_n 0, 0)] (pc' := 16) (lv' := [(0, .ref 0), (1, .int v1), (2, .int v2), (3, .int v3), (4, .int v4)]) (st' := [.ref 0]) (σ' := σ) (by decide +kernel) rfl rfl rfl ?_
    refine fhW.callv hΓ mvX12_markMany ml_12_426 (t := 0) (ci := 12) (av := []) (rest := []) (r := (some (.int (f_X12_markMany σ)))) (σ' := σ) (T_X12_markMany (E := fhEn Γ) (d := fhD Γ - 1) (by omega) σ) (by omega) (by decide +kernel) rfl rfl rfl (Nat.le_of_ble_eq_true rfl) rfl ?_
    show fhW fhYM Γ 19 [(0, .ref 0), (1, .int v1), (2, .int v2), (3, .int v3), (4, .int v4)] [.int (f_X12_markMany σ)] σ
    obtain ⟨hg1, h⟩ := fhif h
    refine fhW.blk fhPM fhLL hΓ [(.iload_n 3, 0), (.imul, 0), (.aload_n 0, 0), (.getfield 109, 0), (.iconst 5, 5), (.iload_n 2, 0), (.iadd, 0), (.iaload, 0), (.iload 4, 0), (.ishr, 0), (.iconst 1, 1), (.iand, 0), (.iconst 1, 1)] (pc' := 35) (lv' := [(0, .ref 0), (1, .int v1), (2, .int v2), (3, .int v3), (4, .int v4)]) (st' := [.int (1 : Int32), .int (((σ.1 32 (fhix ((5 : Int32) + v2))) >>> (v4 &&& 31)) &&& (1 : Int32)), .int ((f_X12_markMany σ) * v3)]) (σ' := σ) (by decide +kernel) rfl rfl hg1 ?_
    refine fhW.i_ne hΓ (tgt := 48) (show fhbk _ _ (.if_icmp .ne (13)) _ = true by decide +kernel) (fun hc => ?_) (fun hc => ?_)
    · rw [if_neg hc] at h
      refine fhW.blk fhPM fhLL hΓ [(.iconst 0, 0)] (pc' := 49) (lv' := [(0, .ref 0), (1, .int v1), (2, .int v2), (3, .int v3), (4, .int v4)]) (st' := [.int (0 : Int32), .int ((f_X12_markMany σ) * v3)]) (σ' := σ) (by decide +kernel) rfl rfl rfl ?_
      refine fhW.sub (lv' := [(0, .ref 0), (1, .int v1), (2, .int v2), (4, .int v4)]) [0, 1, 2, 4] rfl ?_
      exact L_X12_keyOf_49 hΓ hd v1 v2 v4 (0 : Int32) ((f_X12_markMany σ) * v3) σ _ h hk
    · rw [if_pos hc] at h
      refine fhW.blk fhPM fhLL hΓ [(.aload_n 0, 0), (.iload_n 1, 0), (.iload 4, 0)] (pc' := 42) (lv' := [(0, .ref 0), (1, .int v1), (2, .int v2), (3, .int v3), (4, .int v4)]) (st' := [.int v4, .int v1, .ref 0, .int ((f_X12_markMany σ) * v3)]) (σ' := σ) (by decide +kernel) rfl rfl rfl ?_
      obtain ⟨q1, hb1, h⟩ := Option.bind_eq_some_iff.mp h
      refine fhW.callv hΓ mvX12_markOf ml_12_429 (t := 0) (ci := 12) (av := [.int v1, .int v4]) (rest := [.int ((f_X12_markMany σ) * v3)]) (r := (some (.int q1))) (σ' := σ) (T_X12_markOf (E := fhEn Γ) (d := fhD Γ - 1) (by omega) v1 v4 σ hb1) (by omega) (by decide +kernel) rfl rfl rfl (Nat.le_of_ble_eq_true rfl) rfl ?_
      show fhW fhYM Γ 45 [(0, .ref 0), (1, .int v1), (2, .int v2), (3, .int v3), (4, .int v4)] [.int q1, .int ((f_X12_markMany σ) * v3)] σ
      refine fhW.goto hΓ (off := 4) (tgt := 49) (by decide +kernel) ?_
      refine fhW.sub (lv' := [(0, .ref 0), (1, .int v1), (2, .int v2), (4, .int v4)]) [0, 1, 2, 4] rfl ?_
      exact L_X12_keyOf_49 hΓ hd v1 v2 v4 q1 ((f_X12_markMany σ) * v3) σ _ h hk
set_option maxRecDepth 100000 in
set_option maxHeartbeats 4000000 in
theorem L_X12_keyOf_E {Γ : fhX} (hΓ : fhOk fhYM 12 cX12_keyOf 5 (some .int) Γ) (hd : 2 ≤ fhD Γ) (v1 : Int32) (v2 : Int32)  (σ : fhM) (o : Int32) (h : f_X12_keyOf v1 v2 σ = some o) (hk : (fun o => fhRet Γ (some (.int o)) σ) o) : fhW fhYM Γ 0 [(0, .ref 0), (1, .int v1), (2, .int v2)] [] σ := by
  unfold f_X12_keyOf at h
  refine fhW.blk fhPM fhLL hΓ [(.iconst 0, 0), (.istore_n 3, 0), (.aload_n 0, 0)] (pc' := 3) (lv' := [(3, .int (0 : Int32)), (0, .ref 0), (1, .int v1), (2, .int v2)]) (st' := [.ref 0]) (σ' := σ) (by decide +kernel) rfl rfl rfl ?_
  refine fhW.callv hΓ mvX12_guestMany ml_12_423 (t := 0) (ci := 12) (av := []) (rest := []) (r := (some (.int (f_X12_guestMany σ)))) (σ' := σ) (T_X12_guestMany (E := fhEn Γ) (d := fhD Γ - 1) (by omega) σ) (by omega) (by decide +kernel) rfl rfl rfl (Nat.le_of_ble_eq_true rfl) rfl ?_
  show fhW fhYM Γ 6 [(3, .int (0 : Int32)), (0, .ref 0), (1, .int v1), (2, .int v2)] [.int (f_X12_guestMany σ)] σ
  refine fhW.blk fhPM fhLL hΓ [(.iconst 1, 1), (.isub, 0), (.istore 4, 0)] (pc' := 10) (lv' := [(4, .int ((f_X12_guestMany σ) - (1 : Int32))), (3, .int (0 : Int32)), (0, .ref 0), (1, .int v1), (2, .int v2)]) (st' := []) (σ' := σ) (by decide +kernel) rfl rfl rfl ?_
  refine fhW.sub (lv' := [(0, .ref 0), (1, .int v1), (2, .int v2), (3, .int (0 : Int32)), (4, .int ((f_X12_guestMany σ) - (1 : Int32)))]) [2, 3, 4, 1, 0] rfl ?_
  exact fhlp_ok (W := (fun x => fhW fhYM Γ 10 [(0, .ref 0), (1, .int v1), (2, .int v2), (3, .int x.1), (4, .int x.2)] [] σ)) (B := (fun o => fhRet Γ (some (.int o)) σ)) (fun x o h hk => L_X12_keyOf_10 hΓ hd v1 v2 x.1 x.2 σ o h hk) ((0 : Int32), ((f_X12_guestMany σ) - (1 : Int32))) _ h hk
set_option maxRecDepth 100000 in
theorem T_X12_keyOf {E : fhE} {d : Nat} (hd : 2 ≤ d) (v1 : Int32) (v2 : Int32)  (σ : fhM) {o : Int32} (h : f_X12_keyOf v1 v2 σ = some o) : fhC fhYM E d miX12_keyOf [.ref 0, .int v1, .int v2] σ (some (.int o)) σ := by
  refine fhC.of (y := yX12_keyOf) (cc := cX12_keyOf) (nL := 5) (ret := (some .int)) 12 rfl (by decide +kernel) (Nat.le_of_ble_eq_true rfl) ?_
  intro Γ hΓ hR hD hEn
  subst hD; subst hEn
  exact L_X12_keyOf_E hΓ hd v1 v2  σ _ h hR
set_option maxRecDepth 100000 in
set_option maxHeartbeats 4000000 in
theorem L_X12_laysTests_234 {Γ : fhX} (hΓ : fhOk fhYM 12 cX12_laysTests 4 none Γ) (hd : 4 ≤ fhD Γ) (v1 : Int32)  (σ : fhM) (o : (Int32 × fhM) ⊕ (fhM)) (h : f_X12_laysTests_234 v1 σ = some o) (hk : (fhK (fun x => fhW fhYM Γ 207 [(0, .ref 0), (1, .int x.1)] [] x.2) (fun o => fhRet Γ none o)) o) : fhW fhYM Γ 234 [(0, .ref 0), (1, .int v1)] [] σ := by
  unfold f_X12_laysTests_234 at h
  refine fhW.blk fhPM fhLL hΓ [(.iinc 1 1, 1)] (pc' := 237) (lv' := [(1, .int (v1 + (1 : Int32))), (0, .ref 0)]) (st' := []) (σ' := σ) (by decide +kernel) rfl rfl rfl ?_
  refine fhW.goto hΓ (off := (-30)) (tgt := 207) (by decide +kernel) ?_
  refine fhW.sub (lv' := [(0, .ref 0), (1, .int (v1 + (1 : Int32)))]) [1, 0] rfl ?_
  have e9 := Option.some.inj h
  subst e9
  exact hk
set_option maxRecDepth 100000 in
set_option maxHeartbeats 4000000 in
theorem L_X12_laysTests_207 {Γ : fhX} (hΓ : fhOk fhYM 12 cX12_laysTests 4 none Γ) (hd : 4 ≤ fhD Γ) (v1 : Int32)  (σ : fhM) (o : (Int32 × fhM) ⊕ (fhM)) (h : f_X12_laysTests_207 v1 σ = some o) (hk : (fhK (fun x => fhW fhYM Γ 207 [(0, .ref 0), (1, .int x.1)] [] x.2) (fun o => fhRet Γ none o)) o) : fhW fhYM Γ 207 [(0, .ref 0), (1, .int v1)] [] σ := by
  unfold f_X12_laysTests_207 at h
  refine fhW.blk fhPM fhLL hΓ [(.iload_n 1, 0), (.aload_n 0, 0), (.getfield 432, 0)] (pc' := 212) (lv' := [(0, .ref 0), (1, .int v1)]) (st' := [.int (σ.1 0 52), .int v1]) (σ' := σ) (by decide +kernel) rfl rfl rfl ?_
  refine fhW.i_ge hΓ (tgt := 240) (show fhbk _ _ (.if_icmp .ge (28)) _ = true by decide +kernel) (fun hc => ?_) (fun hc => ?_)
  · rw [if_pos hc] at h
    have e9 := Option.some.inj h
    subst e9
    exact fhW.vret hΓ (by decide +kernel) hk
  · rw [if_neg hc] at h
    obtain ⟨hg1, h⟩ := fhif h
    refine fhW.blk fhPM fhLL hΓ [(.aload_n 0, 0), (.getfield 124, 0), (.iload_n 1, 0), (.baload, 0)] (pc' := 221) (lv' := [(0, .ref 0), (1, .int v1)]) (st' := [.int (σ.1 37 (fhix v1))]) (σ' := σ) (by decide +kernel) rfl rfl hg1 ?_
    refine fhW.z_eq hΓ (tgt := 234) (show fhbk _ _ (.ifCond .eq (13)) _ = true by decide +kernel) (fun hc => ?_) (fun hc => ?_)
    · rw [if_pos hc] at h
      refine fhW.sub (lv' := [(0, .ref 0), (1, .int v1)]) [0, 1] rfl ?_
      exact L_X12_laysTests_234 hΓ hd v1 σ _ h hk
    · rw [if_neg hc] at h
      refine fhW.blk fhPM fhLL hΓ [(.aload_n 0, 0), (.dup, 0), (.getfield 438, 0), (.iconst 1, 1), (.iadd, 0), (.putfield 438, 0)] (pc' := 234) (lv' := [(0, .ref 0), (1, .int v1)]) (st' := []) (σ' := (fhI σ 0 53 ((σ.1 0 53) + (1 : Int32)))) (by decide +kernel) rfl rfl rfl ?_
      refine fhW.sub (lv' := [(0, .ref 0), (1, .int v1)]) [0, 1] rfl ?_
      exact L_X12_laysTests_234 hΓ hd v1 (fhI σ 0 53 ((σ.1 0 53) + (1 : Int32))) _ h hk
set_option maxRecDepth 100000 in
set_option maxHeartbeats 4000000 in
theorem L_X12_laysTests_194 {Γ : fhX} (hΓ : fhOk fhYM 12 cX12_laysTests 4 none Γ) (hd : 4 ≤ fhD Γ) (v1 : Int32)  (σ : fhM) (o : (Int32 × fhM) ⊕ (fhM)) (h : f_X12_laysTests_194 v1 σ = some o) (hk : (fhK (fun x => fhW fhYM Γ 66 [(0, .ref 0), (1, .int x.1)] [] x.2) (fun o => fhRet Γ none o)) o) : fhW fhYM Γ 194 [(0, .ref 0), (1, .int v1)] [] σ := by
  unfold f_X12_laysTests_194 at h
  refine fhW.blk fhPM fhLL hΓ [(.iinc 1 1, 1)] (pc' := 197) (lv' := [(1, .int (v1 + (1 : Int32))), (0, .ref 0)]) (st' := []) (σ' := σ) (by decide +kernel) rfl rfl rfl ?_
  refine fhW.goto hΓ (off := (-131)) (tgt := 66) (by decide +kernel) ?_
  refine fhW.sub (lv' := [(0, .ref 0), (1, .int (v1 + (1 : Int32)))]) [1, 0] rfl ?_
  have e9 := Option.some.inj h
  subst e9
  exact hk
set_option maxRecDepth 100000 in
set_option maxHeartbeats 4000000 in
theorem L_X12_laysTests_188 {Γ : fhX} (hΓ : fhOk fhYM 12 cX12_laysTests 4 none Γ) (hd : 4 ≤ fhD Γ) (v1 : Int32) (v2 : Int32)  (σ : fhM) (o : (Int32 × fhM) ⊕ ((Int32 × fhM) ⊕ (fhM))) (h : f_X12_laysTests_188 v1 v2 σ = some o) (hk : (fhK (fun x => fhW fhYM Γ 112 [(0, .ref 0), (1, .int v1), (2, .int x.1)] [] x.2) (fhK (fun x => fhW fhYM Γ 66 [(0, .ref 0), (1, .int x.1)] [] x.2) (fun o => fhRet Γ none o))) o) : fhW fhYM Γ 188 [(0, .ref 0), (1, .int v1), (2, .int v2)] [] σ := by
  unfold f_X12_laysTests_188 at h
  refine fhW.blk fhPM fhLL hΓ [(.iinc 2 1, 1)] (pc' := 191) (lv' := [(2, .int (v2 + (1 : Int32))), (0, .ref 0), (1, .int v1)]) (st' := []) (σ' := σ) (by decide +kernel) rfl rfl rfl ?_
  refine fhW.goto hΓ (off := (-79)) (tgt := 112) (by decide +kernel) ?_
  refine fhW.sub (lv' := [(0, .ref 0), (1, .int v1), (2, .int (v2 + (1 : Int32)))]) [1, 2, 0] rfl ?_
  have e9 := Option.some.inj h
  subst e9
  exact hk
set_option maxRecDepth 100000 in
set_option maxHeartbeats 4000000 in
theorem L_X12_laysTests_165 {Γ : fhX} (hΓ : fhOk fhYM 12 cX12_laysTests 4 none Γ) (hd : 4 ≤ fhD Γ) (v1 : Int32) (v2 : Int32) (v3 : Int32)  (σ : fhM) (o : (Int32 × fhM) ⊕ ((Int32 × fhM) ⊕ (fhM))) (h : f_X12_laysTests_165 v1 v2 v3 σ = some o) (hk : (fhK (fun x => fhW fhYM Γ 112 [(0, .ref 0), (1, .int v1), (2, .int x.1)] [] x.2) (fhK (fun x => fhW fhYM Γ 66 [(0, .ref 0), (1, .int x.1)] [] x.2) (fun o => fhRet Γ none o))) o) : fhW fhYM Γ 165 [(0, .ref 0), (1, .int v1), (2, .int v2), (3, .int v3)] [] σ := by
  unfold f_X12_laysTests_165 at h
  refine fhW.blk fhPM fhLL hΓ [(.iload_n 1, 0), (.iconst 4, 4)] (pc' := 167) (lv' := [(0, .ref 0), (1, .int v1), (2, .int v2), (3, .int v3)]) (st' := [.int (4 : Int32), .int v1]) (σ' := σ) (by decide +kernel) rfl rfl rfl ?_
  refine fhW.i_lt hΓ (tgt := 188) (show fhbk _ _ (.if_icmp .lt (21)) _ = true by decide +kernel) (fun hc => ?_) (fun hc => ?_)
  · rw [if_pos hc] at h
    refine fhW.sub (lv' := [(0, .ref 0), (1, .int v1), (2, .int v2)]) [0, 1, 2] rfl ?_
    exact L_X12_laysTests_188 hΓ hd v1 v2 σ _ h hk
  · rw [if_neg hc] at h
    refine fhW.blk fhPM fhLL hΓ [(.iload_n 3, 0)] (pc' := 171) (lv' := [(0, .ref 0), (1, .int v1), (2, .int v2), (3, .int v3)]) (st' := [.int v3]) (σ' := σ) (by decide +kernel) rfl rfl rfl ?_
    refine fhW.z_eq hΓ (tgt := 188) (show fhbk _ _ (.ifCond .eq (17)) _ = true by decide +kernel) (fun hc => ?_) (fun hc => ?_)
    · rw [if_pos hc] at h
      refine fhW.sub (lv' := [(0, .ref 0), (1, .int v1), (2, .int v2)]) [0, 1, 2] rfl ?_
      exact L_X12_laysTests_188 hΓ hd v1 v2 σ _ h hk
    · rw [if_neg hc] at h
      obtain ⟨hg2, h⟩ := fhif h
      refine fhW.blk fhPM fhLL hΓ [(.aload_n 0, 0), (.getfield 128, 0), (.iload_n 2, 0), (.dup2, 0), (.iaload, 0), (.iconst 1, 1), (.iload_n 1, 0), (.iconst 4, 4), (.isub, 0), (.ishl, 0), (.ior, 0), (.iastore, 0)] (pc' := 188) (lv' := [(0, .ref 0), (1, .int v1), (2, .int v2), (3, .int v3)]) (st' := []) (σ' := (fhI σ 38 (fhix v2) ((σ.1 38 (fhix v2)) ||| ((1 : Int32) <<< ((v1 - (4 : Int32)) &&& 31))))) (by decide +kernel) rfl rfl hg2 ?_
      refine fhW.sub (lv' := [(0, .ref 0), (1, .int v1), (2, .int v2)]) [0, 1, 2] rfl ?_
      exact L_X12_laysTests_188 hΓ hd v1 v2 (fhI σ 38 (fhix v2) ((σ.1 38 (fhix v2)) ||| ((1 : Int32) <<< ((v1 - (4 : Int32)) &&& 31)))) _ h hk
set_option maxRecDepth 100000 in
set_option maxHeartbeats 4000000 in
theorem L_X12_laysTests_148 {Γ : fhX} (hΓ : fhOk fhYM 12 cX12_laysTests 4 none Γ) (hd : 4 ≤ fhD Γ) (v1 : Int32) (v2 : Int32) (s0 : Int32)  (σ : fhM) (o : (Int32 × fhM) ⊕ ((Int32 × fhM) ⊕ (fhM))) (h : f_X12_laysTests_148 v1 v2 s0 σ = some o) (hk : (fhK (fun x => fhW fhYM Γ 112 [(0, .ref 0), (1, .int v1), (2, .int x.1)] [] x.2) (fhK (fun x => fhW fhYM Γ 66 [(0, .ref 0), (1, .int x.1)] [] x.2) (fun o => fhRet Γ none o))) o) : fhW fhYM Γ 148 [(0, .ref 0), (1, .int v1), (2, .int v2)] [.int s0] σ := by
  unfold f_X12_laysTests_148 at h
  refine fhW.blk fhPM fhLL hΓ [(.istore_n 3, 0), (.iload_n 1, 0), (.iconst 4, 4)] (pc' := 151) (lv' := [(3, .int s0), (0, .ref 0), (1, .int v1), (2, .int v2)]) (st' := [.int (4 : Int32), .int v1]) (σ' := σ) (by decide +kernel) rfl rfl rfl ?_
  refine fhW.i_ge hΓ (tgt := 165) (show fhbk _ _ (.if_icmp .ge (14)) _ = true by decide +kernel) (fun hc => ?_) (fun hc => ?_)
  · rw [if_pos hc] at h
    refine fhW.sub (lv' := [(0, .ref 0), (1, .int v1), (2, .int v2), (3, .int s0)]) [1, 2, 3, 0] rfl ?_
    exact L_X12_laysTests_165 hΓ hd v1 v2 s0 σ _ h hk
  · rw [if_neg hc] at h
    refine fhW.blk fhPM fhLL hΓ [(.iload_n 3, 0)] (pc' := 155) (lv' := [(3, .int s0), (0, .ref 0), (1, .int v1), (2, .int v2)]) (st' := [.int s0]) (σ' := σ) (by decide +kernel) rfl rfl rfl ?_
    refine fhW.z_ne hΓ (tgt := 165) (show fhbk _ _ (.ifCond .ne (10)) _ = true by decide +kernel) (fun hc => ?_) (fun hc => ?_)
    · rw [if_neg hc] at h
      refine fhW.sub (lv' := [(0, .ref 0), (1, .int v1), (2, .int v2), (3, .int s0)]) [1, 2, 3, 0] rfl ?_
      exact L_X12_laysTests_165 hΓ hd v1 v2 s0 σ _ h hk
    · rw [if_pos hc] at h
      obtain ⟨hg3, h⟩ := fhif h
      refine fhW.blk fhPM fhLL hΓ [(.aload_n 0, 0), (.getfield 124, 0), (.iload_n 2, 0), (.iconst 0, 0), (.bastore, 0)] (pc' := 165) (lv' := [(3, .int s0), (0, .ref 0), (1, .int v1), (2, .int v2)]) (st' := []) (σ' := (fhI σ 37 (fhix v2) ((0 : Int32) &&& 1))) (by decide +kernel) rfl rfl hg3 ?_
      refine fhW.sub (lv' := [(0, .ref 0), (1, .int v1), (2, .int v2), (3, .int s0)]) [1, 2, 3, 0] rfl ?_
      exact L_X12_laysTests_165 hΓ hd v1 v2 s0 (fhI σ 37 (fhix v2) ((0 : Int32) &&& 1)) _ h hk
set_option maxRecDepth 100000 in
set_option maxHeartbeats 4000000 in
theorem L_X12_laysTests_112 {Γ : fhX} (hΓ : fhOk fhYM 12 cX12_laysTests 4 none Γ) (hd : 4 ≤ fhD Γ) (v1 : Int32) (v2 : Int32)  (σ : fhM) (o : (Int32 × fhM) ⊕ ((Int32 × fhM) ⊕ (fhM))) (h : f_X12_laysTests_112 v1 v2 σ = some o) (hk : (fhK (fun x => fhW fhYM Γ 112 [(0, .ref 0), (1, .int v1), (2, .int x.1)] [] x.2) (fhK (fun x => fhW fhYM Γ 66 [(0, .ref 0), (1, .int x.1)] [] x.2) (fun o => fhRet Γ none o))) o) : fhW fhYM Γ 112 [(0, .ref 0), (1, .int v1), (2, .int v2)] [] σ := by
  unfold f_X12_laysTests_112 at h
  refine fhW.blk fhPM fhLL hΓ [(.iload_n 2, 0), (.aload_n 0, 0), (.getfield 432, 0)] (pc' := 117) (lv' := [(0, .ref 0), (1, .int v1), (2, .int v2)]) (st' := [.int (σ.1 0 52), .int v2]) (σ' := σ) (by decide +kernel) rfl rfl rfl ?_
  refine fhW.i_ge hΓ (tgt := 194) (show fhbk _ _ (.if_icmp .ge (77)) _ = true by decide +kernel) (fun hc => ?_) (fun hc => ?_)
  · rw [if_pos hc] at h
    refine fhW.sub (lv' := [(0, .ref 0), (1, .int v1)]) [0, 1] rfl ?_
    obtain ⟨z1, hz, e1⟩ := Option.map_eq_some_iff.mp h
    clear h
    subst e1
    have h := hz
    have hk : (fhK (fun x => fhW fhYM Γ 66 [(0, .ref 0), (1, .int x.1)] [] x.2) (fun o => fhRet Γ none o)) z1 := hk
    exact L_X12_laysTests_194 hΓ hd v1 σ _ h hk
  · rw [if_neg hc] at h
    refine fhW.blk fhPM fhLL hΓ [(.aload_n 0, 0), (.iload_n 2, 0), (.aload_n 0, 0)] (pc' := 123) (lv' := [(0, .ref 0), (1, .int v1), (2, .int v2)]) (st' := [.ref 0, .int v2, .ref 0]) (σ' := σ) (by decide +kernel) rfl rfl rfl ?_
    refine fhW.callv hΓ mvX12_markMany ml_12_426 (t := 0) (ci := 12) (av := []) (rest := [.int v2, .ref 0]) (r := (some (.int (f_X12_markMany σ)))) (σ' := σ) (T_X12_markMany (E := fhEn Γ) (d := fhD Γ - 1) (by omega) σ) (by omega) (by decide +kernel) rfl rfl rfl (Nat.le_of_ble_eq_true rfl) rfl ?_
    show fhW fhYM Γ 126 [(0, .ref 0), (1, .int v1), (2, .int v2)] [.int (f_X12_markMany σ), .int v2, .ref 0] σ
    refine fhW.blk fhPM fhLL hΓ [(.aload_n 0, 0)] (pc' := 127) (lv' := [(0, .ref 0), (1, .int v1), (2, .int v2)]) (st' := [.ref 0, .int (f_X12_markMany σ), .int v2, .ref 0]) (σ' := σ) (by decide +kernel) rfl rfl rfl ?_
    refine fhW.callv hΓ mvX12_guestMany ml_12_423 (t := 0) (ci := 12) (av := []) (rest := [.int (f_X12_markMany σ), .int v2, .ref 0]) (r := (some (.int (f_X12_guestMany σ)))) (σ' := σ) (T_X12_guestMany (E := fhEn Γ) (d := fhD Γ - 1) (by omega) σ) (by omega) (by decide +kernel) rfl rfl rfl (Nat.le_of_ble_eq_true rfl) rfl ?_
    show fhW fhYM Γ 130 [(0, .ref 0), (1, .int v1), (2, .int v2)] [.int (f_X12_guestMany σ), .int (f_X12_markMany σ), .int v2, .ref 0] σ
    obtain ⟨q3, hb1, h⟩ := Option.bind_eq_some_iff.mp h
    refine fhW.callv hΓ mvX12_laysRow ml_12_397 (t := 0) (ci := 12) (av := [.int v2, .int (f_X12_markMany σ), .int (f_X12_guestMany σ)]) (rest := []) (r := none) (σ' := q3) (T_X12_laysRow (E := fhEn Γ) (d := fhD Γ - 1) (by omega) v2 (f_X12_markMany σ) (f_X12_guestMany σ) σ hb1) (by omega) (by decide +kernel) rfl rfl rfl (Nat.le_of_ble_eq_true rfl) rfl ?_
    show fhW fhYM Γ 133 [(0, .ref 0), (1, .int v1), (2, .int v2)] [] q3
    refine fhW.blk fhPM fhLL hΓ [(.aload_n 0, 0), (.iconst 0, 0)] (pc' := 135) (lv' := [(0, .ref 0), (1, .int v1), (2, .int v2)]) (st' := [.int (0 : Int32), .ref 0]) (σ' := q3) (by decide +kernel) rfl rfl rfl ?_
    obtain ⟨q4, hb2, h⟩ := Option.bind_eq_some_iff.mp h
    refine fhW.callv hΓ mvX12_qTold ml_12_400 (t := 0) (ci := 12) (av := [.int (0 : Int32)]) (rest := []) (r := (some (.long q4.1))) (σ' := q4.2) (T_X12_qTold (E := fhEn Γ) (d := fhD Γ - 1) (by omega) (0 : Int32) q3 hb2) (by omega) (by decide +kernel) rfl rfl rfl (Nat.le_of_ble_eq_true rfl) rfl ?_
    show fhW fhYM Γ 138 [(0, .ref 0), (1, .int v1), (2, .int v2)] [.long q4.1] q4.2
    refine fhW.blk fhPM fhLL hΓ [(.lconst 1, 0), (.lcmp, 0)] (pc' := 140) (lv' := [(0, .ref 0), (1, .int v1), (2, .int v2)]) (st' := [.int (lg_cmp q4.1 (1 : Int64))]) (σ' := q4.2) (by decide +kernel) rfl rfl rfl ?_
    refine fhW.z_ne hΓ (tgt := 147) (show fhbk _ _ (.ifCond .ne (7)) _ = true by decide +kernel) (fun hc => ?_) (fun hc => ?_)
    · simp only [if_neg hc] at h
      refine fhW.blk fhPM fhLL hΓ [(.iconst 0, 0)] (pc' := 148) (lv' := [(0, .ref 0), (1, .int v1), (2, .int v2)]) (st' := [.int (0 : Int32)]) (σ' := q4.2) (by decide +kernel) rfl rfl rfl ?_
      refine fhW.sub (lv' := [(0, .ref 0), (1, .int v1), (2, .int v2)]) [0, 1, 2] rfl ?_
      exact L_X12_laysTests_148 hΓ hd v1 v2 (0 : Int32) q4.2 _ h hk
    · simp only [if_pos hc] at h
      refine fhW.blk fhPM fhLL hΓ [(.iconst 1, 1)] (pc' := 144) (lv' := [(0, .ref 0), (1, .int v1), (2, .int v2)]) (st' := [.int (1 : Int32)]) (σ' := q4.2) (by decide +kernel) rfl rfl rfl ?_
      refine fhW.goto hΓ (off := 4) (tgt := 148) (by decide +kernel) ?_
      refine fhW.sub (lv' := [(0, .ref 0), (1, .int v1), (2, .int v2)]) [0, 1, 2] rfl ?_
      exact L_X12_laysTests_148 hΓ hd v1 v2 (1 : Int32) q4.2 _ h hk
set_option maxRecDepth 100000 in
set_option maxHeartbeats 4000000 in
theorem L_X12_laysTests_105 {Γ : fhX} (hΓ : fhOk fhYM 12 cX12_laysTests 4 none Γ) (hd : 4 ≤ fhD Γ) (v1 : Int32)  (σ : fhM) (o : (Int32 × fhM) ⊕ (fhM)) (h : f_X12_laysTests_105 v1 σ = some o) (hk : (fhK (fun x => fhW fhYM Γ 66 [(0, .ref 0), (1, .int x.1)] [] x.2) (fun o => fhRet Γ none o)) o) : fhW fhYM Γ 105 [(0, .ref 0), (1, .int v1)] [] σ := by
  unfold f_X12_laysTests_105 at h
  refine fhW.blk fhPM fhLL hΓ [(.aload_n 0, 0), (.iload_n 1, 0)] (pc' := 107) (lv' := [(0, .ref 0), (1, .int v1)]) (st' := [.int v1, .ref 0]) (σ' := σ) (by decide +kernel) rfl rfl rfl ?_
  obtain ⟨q2, hb3, h⟩ := Option.bind_eq_some_iff.mp h
  refine fhW.callv hΓ mvX12_loadsTest ml_12_391 (t := 0) (ci := 12) (av := [.int v1]) (rest := []) (r := none) (σ' := q2) (T_X12_loadsTest (E := fhEn Γ) (d := fhD Γ - 1) (by omega) v1 σ hb3) (by omega) (by decide +kernel) rfl rfl rfl (Nat.le_of_ble_eq_true rfl) rfl ?_
  show fhW fhYM Γ 110 [(0, .ref 0), (1, .int v1)] [] q2
  refine fhW.blk fhPM fhLL hΓ [(.iconst 0, 0), (.istore_n 2, 0)] (pc' := 112) (lv' := [(2, .int (0 : Int32)), (0, .ref 0), (1, .int v1)]) (st' := []) (σ' := q2) (by decide +kernel) rfl rfl rfl ?_
  refine fhW.sub (lv' := [(0, .ref 0), (1, .int v1), (2, .int (0 : Int32))]) [1, 2, 0] rfl ?_
  exact fhlp_ok (W := (fun x => fhW fhYM Γ 112 [(0, .ref 0), (1, .int v1), (2, .int x.1)] [] x.2)) (B := (fhK (fun x => fhW fhYM Γ 66 [(0, .ref 0), (1, .int x.1)] [] x.2) (fun o => fhRet Γ none o))) (fun x o h hk => L_X12_laysTests_112 hΓ hd v1 x.1 x.2 o h hk) ((0 : Int32), q2) _ h hk
set_option maxRecDepth 100000 in
set_option maxHeartbeats 4000000 in
theorem L_X12_laysTests_66 {Γ : fhX} (hΓ : fhOk fhYM 12 cX12_laysTests 4 none Γ) (hd : 4 ≤ fhD Γ) (v1 : Int32)  (σ : fhM) (o : (Int32 × fhM) ⊕ (fhM)) (h : f_X12_laysTests_66 v1 σ = some o) (hk : (fhK (fun x => fhW fhYM Γ 66 [(0, .ref 0), (1, .int x.1)] [] x.2) (fun o => fhRet Γ none o)) o) : fhW fhYM Γ 66 [(0, .ref 0), (1, .int v1)] [] σ := by
  unfold f_X12_laysTests_66 at h
  refine fhW.blk fhPM fhLL hΓ [(.iload_n 1, 0), (.bipush 12, 12)] (pc' := 69) (lv' := [(0, .ref 0), (1, .int v1)]) (st' := [.int (12 : Int32), .int v1]) (σ' := σ) (by decide +kernel) rfl rfl rfl ?_
  refine fhW.i_ge hΓ (tgt := 200) (show fhbk _ _ (.if_icmp .ge (131)) _ = true by decide +kernel) (fun hc => ?_) (fun hc => ?_)
  · rw [if_pos hc] at h
    refine fhW.blk fhPM fhLL hΓ [(.aload_n 0, 0), (.iconst 0, 0), (.putfield 438, 0), (.iconst 0, 0), (.istore_n 1, 0)] (pc' := 207) (lv' := [(1, .int (0 : Int32)), (0, .ref 0)]) (st' := []) (σ' := (fhI σ 0 53 (0 : Int32))) (by decide +kernel) rfl rfl rfl ?_
    refine fhW.sub (lv' := [(0, .ref 0), (1, .int (0 : Int32))]) [1, 0] rfl ?_
    obtain ⟨z2, hz, e2⟩ := Option.map_eq_some_iff.mp h
    clear h
    subst e2
    have h := hz
    have hk : (fun o => fhRet Γ none o) z2 := hk
    exact fhlp_ok (W := (fun x => fhW fhYM Γ 207 [(0, .ref 0), (1, .int x.1)] [] x.2)) (B := (fun o => fhRet Γ none o)) (fun x o h hk => L_X12_laysTests_207 hΓ hd x.1 x.2 o h hk) ((0 : Int32), (fhI σ 0 53 (0 : Int32))) _ h hk
  · rw [if_neg hc] at h
    refine fhW.blk fhPM fhLL hΓ [(.iload_n 1, 0), (.iconst 4, 4)] (pc' := 74) (lv' := [(0, .ref 0), (1, .int v1)]) (st' := [.int (4 : Int32), .int v1]) (σ' := σ) (by decide +kernel) rfl rfl rfl ?_
    refine fhW.i_ge hΓ (tgt := 90) (show fhbk _ _ (.if_icmp .ge (16)) _ = true by decide +kernel) (fun hc => ?_) (fun hc => ?_)
    · rw [if_pos hc] at h
      refine fhW.blk fhPM fhLL hΓ [(.iload_n 1, 0), (.iconst 4, 4), (.isub, 0), (.aload_n 0, 0), (.getfield 99, 0), (.iconst 3, 3), (.iaload, 0)] (pc' := 99) (lv' := [(0, .ref 0), (1, .int v1)]) (st' := [.int (σ.1 29 3), .int (v1 - (4 : Int32))]) (σ' := σ) (by decide +kernel) rfl rfl rfl ?_
      refine fhW.i_lt hΓ (tgt := 105) (show fhbk _ _ (.if_icmp .lt (6)) _ = true by decide +kernel) (fun hc => ?_) (fun hc => ?_)
      · rw [if_pos hc] at h
        refine fhW.sub (lv' := [(0, .ref 0), (1, .int v1)]) [0, 1] rfl ?_
        exact L_X12_laysTests_105 hΓ hd v1 σ _ h hk
      · rw [if_neg hc] at h
        refine fhW.goto hΓ (off := 92) (tgt := 194) (by decide +kernel) ?_
        refine fhW.sub (lv' := [(0, .ref 0), (1, .int v1)]) [0, 1] rfl ?_
        exact L_X12_laysTests_194 hΓ hd v1 σ _ h hk
    · rw [if_neg hc] at h
      refine fhW.blk fhPM fhLL hΓ [(.iload_n 1, 0), (.aload_n 0, 0), (.getfield 99, 0), (.iconst 2, 2), (.iaload, 0)] (pc' := 84) (lv' := [(0, .ref 0), (1, .int v1)]) (st' := [.int (σ.1 29 2), .int v1]) (σ' := σ) (by decide +kernel) rfl rfl rfl ?_
      refine fhW.i_lt hΓ (tgt := 105) (show fhbk _ _ (.if_icmp .lt (21)) _ = true by decide +kernel) (fun hc => ?_) (fun hc => ?_)
      · rw [if_pos hc] at h
        refine fhW.sub (lv' := [(0, .ref 0), (1, .int v1)]) [0, 1] rfl ?_
        exact L_X12_laysTests_105 hΓ hd v1 σ _ h hk
      · rw [if_neg hc] at h
        refine fhW.goto hΓ (off := 107) (tgt := 194) (by decide +kernel) ?_
        refine fhW.sub (lv' := [(0, .ref 0), (1, .int v1)]) [0, 1] rfl ?_
        exact L_X12_laysTests_194 hΓ hd v1 σ _ h hk
set_option maxRecDepth 100000 in
set_option maxHeartbeats 4000000 in
theorem L_X12_laysTests_26 {Γ : fhX} (hΓ : fhOk fhYM 12 cX12_laysTests 4 none Γ) (hd : 4 ≤ fhD Γ) (v1 : Int32) (v2 : Int32)  (σ : fhM) (o : (Int32 × fhM) ⊕ ((Int32 × fhM) ⊕ (fhM))) (h : f_X12_laysTests_26 v1 v2 σ = some o) (hk : (fhK (fun x => fhW fhYM Γ 26 [(0, .ref 0), (1, .int v1), (2, .int x.1)] [] x.2) (fhK (fun x => fhW fhYM Γ 2 [(0, .ref 0), (1, .int x.1)] [] x.2) (fun o => fhRet Γ none o))) o) : fhW fhYM Γ 26 [(0, .ref 0), (1, .int v1), (2, .int v2)] [] σ := by
  unfold f_X12_laysTests_26 at h
  refine fhW.blk fhPM fhLL hΓ [(.iload_n 2, 0), (.aload_n 0, 0)] (pc' := 28) (lv' := [(0, .ref 0), (1, .int v1), (2, .int v2)]) (st' := [.ref 0, .int v2]) (σ' := σ) (by decide +kernel) rfl rfl rfl ?_
  refine fhW.callv hΓ mvX12_guestMany ml_12_423 (t := 0) (ci := 12) (av := []) (rest := [.int v2]) (r := (some (.int (f_X12_guestMany σ)))) (σ' := σ) (T_X12_guestMany (E := fhEn Γ) (d := fhD Γ - 1) (by omega) σ) (by omega) (by decide +kernel) rfl rfl rfl (Nat.le_of_ble_eq_true rfl) rfl ?_
  show fhW fhYM Γ 31 [(0, .ref 0), (1, .int v1), (2, .int v2)] [.int (f_X12_guestMany σ), .int v2] σ
  refine fhW.i_ge hΓ (tgt := 58) (show fhbk _ _ (.if_icmp .ge (27)) _ = true by decide +kernel) (fun hc => ?_) (fun hc => ?_)
  · rw [if_pos hc] at h
    refine fhW.blk fhPM fhLL hΓ [(.iinc 1 1, 1)] (pc' := 61) (lv' := [(1, .int (v1 + (1 : Int32))), (0, .ref 0), (2, .int v2)]) (st' := []) (σ' := σ) (by decide +kernel) rfl rfl rfl ?_
    refine fhW.goto hΓ (off := (-59)) (tgt := 2) (by decide +kernel) ?_
    refine fhW.sub (lv' := [(0, .ref 0), (1, .int (v1 + (1 : Int32)))]) [1, 0] rfl ?_
    have e9 := Option.some.inj h
    subst e9
    exact hk
  · rw [if_neg hc] at h
    refine fhW.blk fhPM fhLL hΓ [(.aload_n 0, 0), (.getfield 131, 0), (.sipush 1024, 1024), (.iload_n 2, 0), (.imul, 0), (.iload_n 1, 0), (.iadd, 0), (.aload_n 0, 0), (.iload_n 1, 0), (.iload_n 2, 0)] (pc' := 48) (lv' := [(0, .ref 0), (1, .int v1), (2, .int v2)]) (st' := [.int v2, .int v1, .ref 0, .int (((1024 : Int32) * v2) + v1), .ref 39]) (σ' := σ) (by decide +kernel) rfl rfl rfl ?_
    obtain ⟨q1, hb4, h⟩ := Option.bind_eq_some_iff.mp h
    refine fhW.callv hΓ mvX12_keyOf ml_12_435 (t := 0) (ci := 12) (av := [.int v1, .int v2]) (rest := [.int (((1024 : Int32) * v2) + v1), .ref 39]) (r := (some (.int q1))) (σ' := σ) (T_X12_keyOf (E := fhEn Γ) (d := fhD Γ - 1) (by omega) v1 v2 σ hb4) (by omega) (by decide +kernel) rfl rfl rfl (Nat.le_of_ble_eq_true rfl) rfl ?_
    show fhW fhYM Γ 51 [(0, .ref 0), (1, .int v1), (2, .int v2)] [.int q1, .int (((1024 : Int32) * v2) + v1), .ref 39] σ
    obtain ⟨hg4, h⟩ := fhif h
    refine fhW.blk fhPM fhLL hΓ [(.iastore, 0), (.iinc 2 1, 1)] (pc' := 55) (lv' := [(2, .int (v2 + (1 : Int32))), (0, .ref 0), (1, .int v1)]) (st' := []) (σ' := (fhI σ 39 (fhix (((1024 : Int32) * v2) + v1)) q1)) (by decide +kernel) rfl rfl hg4 ?_
    refine fhW.goto hΓ (off := (-29)) (tgt := 26) (by decide +kernel) ?_
    refine fhW.sub (lv' := [(0, .ref 0), (1, .int v1), (2, .int (v2 + (1 : Int32)))]) [1, 2, 0] rfl ?_
    have e9 := Option.some.inj h
    subst e9
    exact hk
set_option maxRecDepth 100000 in
set_option maxHeartbeats 4000000 in
theorem L_X12_laysTests_2 {Γ : fhX} (hΓ : fhOk fhYM 12 cX12_laysTests 4 none Γ) (hd : 4 ≤ fhD Γ) (v1 : Int32)  (σ : fhM) (o : (Int32 × fhM) ⊕ (fhM)) (h : f_X12_laysTests_2 v1 σ = some o) (hk : (fhK (fun x => fhW fhYM Γ 2 [(0, .ref 0), (1, .int x.1)] [] x.2) (fun o => fhRet Γ none o)) o) : fhW fhYM Γ 2 [(0, .ref 0), (1, .int v1)] [] σ := by
  unfold f_X12_laysTests_2 at h
  refine fhW.blk fhPM fhLL hΓ [(.iload_n 1, 0), (.aload_n 0, 0), (.getfield 432, 0)] (pc' := 7) (lv' := [(0, .ref 0), (1, .int v1)]) (st' := [.int (σ.1 0 52), .int v1]) (σ' := σ) (by decide +kernel) rfl rfl rfl ?_
  refine fhW.i_ge hΓ (tgt := 64) (show fhbk _ _ (.if_icmp .ge (57)) _ = true by decide +kernel) (fun hc => ?_) (fun hc => ?_)
  · rw [if_pos hc] at h
    refine fhW.blk fhPM fhLL hΓ [(.iconst 0, 0), (.istore_n 1, 0)] (pc' := 66) (lv' := [(1, .int (0 : Int32)), (0, .ref 0)]) (st' := []) (σ' := σ) (by decide +kernel) rfl rfl rfl ?_
    refine fhW.sub (lv' := [(0, .ref 0), (1, .int (0 : Int32))]) [1, 0] rfl ?_
    obtain ⟨z3, hz, e3⟩ := Option.map_eq_some_iff.mp h
    clear h
    subst e3
    have h := hz
    have hk : (fun o => fhRet Γ none o) z3 := hk
    exact fhlp_ok (W := (fun x => fhW fhYM Γ 66 [(0, .ref 0), (1, .int x.1)] [] x.2)) (B := (fun o => fhRet Γ none o)) (fun x o h hk => L_X12_laysTests_66 hΓ hd x.1 x.2 o h hk) ((0 : Int32), σ) _ h hk
  · rw [if_neg hc] at h
    obtain ⟨hg5, h⟩ := fhif h
    refine fhW.blk fhPM fhLL hΓ [(.aload_n 0, 0), (.getfield 124, 0), (.iload_n 1, 0), (.iconst 1, 1), (.bastore, 0), (.aload_n 0, 0), (.getfield 128, 0), (.iload_n 1, 0), (.iconst 0, 0), (.iastore, 0), (.iconst 0, 0), (.istore_n 2, 0)] (pc' := 26) (lv' := [(2, .int (0 : Int32)), (0, .ref 0), (1, .int v1)]) (st' := []) (σ' := (fhI (fhI σ 37 (fhix v1) ((1 : Int32) &&& 1)) 38 (fhix v1) (0 : Int32))) (by decide +kernel) rfl rfl hg5 ?_
    refine fhW.sub (lv' := [(0, .ref 0), (1, .int v1), (2, .int (0 : Int32))]) [1, 2, 0] rfl ?_
    exact fhlp_ok (W := (fun x => fhW fhYM Γ 26 [(0, .ref 0), (1, .int v1), (2, .int x.1)] [] x.2)) (B := (fhK (fun x => fhW fhYM Γ 2 [(0, .ref 0), (1, .int x.1)] [] x.2) (fun o => fhRet Γ none o))) (fun x o h hk => L_X12_laysTests_26 hΓ hd v1 x.1 x.2 o h hk) ((0 : Int32), (fhI (fhI σ 37 (fhix v1) ((1 : Int32) &&& 1)) 38 (fhix v1) (0 : Int32))) _ h hk
set_option maxRecDepth 100000 in
set_option maxHeartbeats 4000000 in
theorem L_X12_laysTests_E {Γ : fhX} (hΓ : fhOk fhYM 12 cX12_laysTests 4 none Γ) (hd : 4 ≤ fhD Γ)   (σ : fhM) (o : fhM) (h : f_X12_laysTests σ = some o) (hk : (fun o => fhRet Γ none o) o) : fhW fhYM Γ 0 [(0, .ref 0)] [] σ := by
  unfold f_X12_laysTests at h
  refine fhW.blk fhPM fhLL hΓ [(.iconst 0, 0), (.istore_n 1, 0)] (pc' := 2) (lv' := [(1, .int (0 : Int32)), (0, .ref 0)]) (st' := []) (σ' := σ) (by decide +kernel) rfl rfl rfl ?_
  refine fhW.sub (lv' := [(0, .ref 0), (1, .int (0 : Int32))]) [1, 0] rfl ?_
  exact fhlp_ok (W := (fun x => fhW fhYM Γ 2 [(0, .ref 0), (1, .int x.1)] [] x.2)) (B := (fun o => fhRet Γ none o)) (fun x o h hk => L_X12_laysTests_2 hΓ hd x.1 x.2 o h hk) ((0 : Int32), σ) _ h hk
set_option maxRecDepth 100000 in
theorem T_X12_laysTests {E : fhE} {d : Nat} (hd : 4 ≤ d)   (σ : fhM) {o : fhM} (h : f_X12_laysTests σ = some o) : fhC fhYM E d miX12_laysTests [.ref 0] σ none o := by
  refine fhC.of (y := yX12_laysTests) (cc := cX12_laysTests) (nL := 4) (ret := none) 12 rfl (by decide +kernel) (Nat.le_of_ble_eq_true rfl) ?_
  intro Γ hΓ hR hD hEn
  subst hD; subst hEn
  exact L_X12_laysTests_E hΓ hd   σ _ h hR
set_option maxRecDepth 100000 in
set_option maxHeartbeats 4000000 in
theorem L_X12_laysGroups_103 {Γ : fhX} (hΓ : fhOk fhYM 12 cX12_laysGroups 4 none Γ) (hd : 1 ≤ fhD Γ) (v1 : Int32) (v2 : Int32)  (σ : fhM) (o : (Int32 × fhM) ⊕ ((Int32 × fhM) ⊕ (fhM))) (h : f_X12_laysGroups_103 v1 v2 σ = some o) (hk : (fhK (fun x => fhW fhYM Γ 35 [(0, .ref 0), (1, .int v1), (2, .int x.1)] [] x.2) (fhK (fun x => fhW fhYM Γ 2 [(0, .ref 0), (1, .int x.1)] [] x.2) (fun o => fhRet Γ none o))) o) : fhW fhYM Γ 103 [(0, .ref 0), (1, .int v1), (2, .int v2)] [] σ := by
  unfold f_X12_laysGroups_103 at h
  refine fhW.blk fhPM fhLL hΓ [(.iinc 2 1, 1)] (pc' := 106) (lv' := [(2, .int (v2 + (1 : Int32))), (0, .ref 0), (1, .int v1)]) (st' := []) (σ' := σ) (by decide +kernel) rfl rfl rfl ?_
  refine fhW.goto hΓ (off := (-71)) (tgt := 35) (by decide +kernel) ?_
  refine fhW.sub (lv' := [(0, .ref 0), (1, .int v1), (2, .int (v2 + (1 : Int32)))]) [1, 2, 0] rfl ?_
  have e9 := Option.some.inj h
  subst e9
  exact hk
set_option maxRecDepth 100000 in
set_option maxHeartbeats 4000000 in
theorem L_X12_laysGroups_85 {Γ : fhX} (hΓ : fhOk fhYM 12 cX12_laysGroups 4 none Γ) (hd : 1 ≤ fhD Γ) (v1 : Int32) (v2 : Int32) (v3 : Int32)  (σ : fhM) (o : (Int32 × fhM) ⊕ ((Int32 × fhM) ⊕ (fhM))) (h : f_X12_laysGroups_85 v1 v2 v3 σ = some o) (hk : (fhK (fun x => fhW fhYM Γ 35 [(0, .ref 0), (1, .int v1), (2, .int x.1)] [] x.2) (fhK (fun x => fhW fhYM Γ 2 [(0, .ref 0), (1, .int x.1)] [] x.2) (fun o => fhRet Γ none o))) o) : fhW fhYM Γ 85 [(0, .ref 0), (1, .int v1), (2, .int v2), (3, .int v3)] [] σ := by
  unfold f_X12_laysGroups_85 at h
  obtain ⟨hg1, h⟩ := fhif h
  refine fhW.blk fhPM fhLL hΓ [(.aload_n 0, 0), (.getfield 137, 0), (.sipush 1024, 1024), (.iload_n 1, 0), (.imul, 0), (.iload_n 2, 0), (.iadd, 0), (.aload_n 0, 0), (.getfield 144, 0), (.iload_n 3, 0), (.iaload, 0), (.iastore, 0)] (pc' := 103) (lv' := [(0, .ref 0), (1, .int v1), (2, .int v2), (3, .int v3)]) (st' := []) (σ' := (fhI σ 41 (fhix (((1024 : Int32) * v1) + v2)) (σ.1 43 (fhix v3)))) (by decide +kernel) rfl rfl hg1 ?_
  refine fhW.sub (lv' := [(0, .ref 0), (1, .int v1), (2, .int v2)]) [0, 1, 2] rfl ?_
  exact L_X12_laysGroups_103 hΓ hd v1 v2 (fhI σ 41 (fhix (((1024 : Int32) * v1) + v2)) (σ.1 43 (fhix v3))) _ h hk
set_option maxRecDepth 100000 in
set_option maxHeartbeats 4000000 in
theorem L_X12_laysGroups_35 {Γ : fhX} (hΓ : fhOk fhYM 12 cX12_laysGroups 4 none Γ) (hd : 1 ≤ fhD Γ) (v1 : Int32) (v2 : Int32)  (σ : fhM) (o : (Int32 × fhM) ⊕ ((Int32 × fhM) ⊕ (fhM))) (h : f_X12_laysGroups_35 v1 v2 σ = some o) (hk : (fhK (fun x => fhW fhYM Γ 35 [(0, .ref 0), (1, .int v1), (2, .int x.1)] [] x.2) (fhK (fun x => fhW fhYM Γ 2 [(0, .ref 0), (1, .int x.1)] [] x.2) (fun o => fhRet Γ none o))) o) : fhW fhYM Γ 35 [(0, .ref 0), (1, .int v1), (2, .int v2)] [] σ := by
  unfold f_X12_laysGroups_35 at h
  refine fhW.blk fhPM fhLL hΓ [(.iload_n 2, 0), (.aload_n 0, 0), (.getfield 432, 0)] (pc' := 40) (lv' := [(0, .ref 0), (1, .int v1), (2, .int v2)]) (st' := [.int (σ.1 0 52), .int v2]) (σ' := σ) (by decide +kernel) rfl rfl rfl ?_
  refine fhW.i_ge hΓ (tgt := 109) (show fhbk _ _ (.if_icmp .ge (69)) _ = true by decide +kernel) (fun hc => ?_) (fun hc => ?_)
  · rw [if_pos hc] at h
    refine fhW.blk fhPM fhLL hΓ [(.iinc 1 1, 1)] (pc' := 112) (lv' := [(1, .int (v1 + (1 : Int32))), (0, .ref 0), (2, .int v2)]) (st' := []) (σ' := σ) (by decide +kernel) rfl rfl rfl ?_
    refine fhW.goto hΓ (off := (-110)) (tgt := 2) (by decide +kernel) ?_
    refine fhW.sub (lv' := [(0, .ref 0), (1, .int (v1 + (1 : Int32)))]) [1, 0] rfl ?_
    have e9 := Option.some.inj h
    subst e9
    exact hk
  · rw [if_neg hc] at h
    obtain ⟨hg2, h⟩ := fhif h
    refine fhW.blk fhPM fhLL hΓ [(.aload_n 0, 0), (.getfield 124, 0), (.iload_n 2, 0), (.baload, 0)] (pc' := 49) (lv' := [(0, .ref 0), (1, .int v1), (2, .int v2)]) (st' := [.int (σ.1 37 (fhix v2))]) (σ' := σ) (by decide +kernel) rfl rfl hg2 ?_
    refine fhW.z_ne hΓ (tgt := 55) (show fhbk _ _ (.ifCond .ne (6)) _ = true by decide +kernel) (fun hc => ?_) (fun hc => ?_)
    · rw [if_neg hc] at h
      obtain ⟨hg3, h⟩ := fhif h
      refine fhW.blk fhPM fhLL hΓ [(.aload_n 0, 0), (.getfield 131, 0), (.sipush 1024, 1024), (.iload_n 1, 0), (.imul, 0), (.iload_n 2, 0), (.iadd, 0), (.iaload, 0), (.istore_n 3, 0), (.aload_n 0, 0), (.getfield 144, 0), (.iload_n 3, 0), (.iaload, 0), (.iconst (-1), -1)] (pc' := 75) (lv' := [(3, .int (σ.1 39 (fhix (((1024 : Int32) * v1) + v2)))), (0, .ref 0), (1, .int v1), (2, .int v2)]) (st' := [.int (-1 : Int32), .int (σ.1 43 (fhix (σ.1 39 (fhix (((1024 : Int32) * v1) + v2)))))]) (σ' := σ) (by decide +kernel) rfl rfl hg3 ?_
      refine fhW.i_ne hΓ (tgt := 85) (show fhbk _ _ (.if_icmp .ne (10)) _ = true by decide +kernel) (fun hc => ?_) (fun hc => ?_)
      · rw [if_neg hc] at h
        refine fhW.sub (lv' := [(0, .ref 0), (1, .int v1), (2, .int v2), (3, .int (σ.1 39 (fhix (((1024 : Int32) * v1) + v2))))]) [1, 2, 3, 0] rfl ?_
        exact L_X12_laysGroups_85 hΓ hd v1 v2 (σ.1 39 (fhix (((1024 : Int32) * v1) + v2))) σ _ h hk
      · rw [if_pos hc] at h
        obtain ⟨hg4, h⟩ := fhif h
        refine fhW.blk fhPM fhLL hΓ [(.aload_n 0, 0), (.getfield 144, 0), (.iload_n 3, 0), (.iload_n 2, 0), (.iastore, 0)] (pc' := 85) (lv' := [(3, .int (σ.1 39 (fhix (((1024 : Int32) * v1) + v2)))), (0, .ref 0), (1, .int v1), (2, .int v2)]) (st' := []) (σ' := (fhI σ 43 (fhix (σ.1 39 (fhix (((1024 : Int32) * v1) + v2)))) v2)) (by decide +kernel) rfl rfl hg4 ?_
        refine fhW.sub (lv' := [(0, .ref 0), (1, .int v1), (2, .int v2), (3, .int (σ.1 39 (fhix (((1024 : Int32) * v1) + v2))))]) [1, 2, 3, 0] rfl ?_
        exact L_X12_laysGroups_85 hΓ hd v1 v2 (σ.1 39 (fhix (((1024 : Int32) * v1) + v2))) (fhI σ 43 (fhix (σ.1 39 (fhix (((1024 : Int32) * v1) + v2)))) v2) _ h hk
    · rw [if_pos hc] at h
      refine fhW.goto hΓ (off := 51) (tgt := 103) (by decide +kernel) ?_
      refine fhW.sub (lv' := [(0, .ref 0), (1, .int v1), (2, .int v2)]) [0, 1, 2] rfl ?_
      exact L_X12_laysGroups_103 hΓ hd v1 v2 σ _ h hk
set_option maxRecDepth 100000 in
set_option maxHeartbeats 4000000 in
theorem L_X12_laysGroups_12 {Γ : fhX} (hΓ : fhOk fhYM 12 cX12_laysGroups 4 none Γ) (hd : 1 ≤ fhD Γ) (v1 : Int32) (v2 : Int32)  (σ : fhM) (o : (Int32 × fhM) ⊕ ((Int32 × fhM) ⊕ (fhM))) (h : f_X12_laysGroups_12 v1 v2 σ = some o) (hk : (fhK (fun x => fhW fhYM Γ 12 [(0, .ref 0), (1, .int v1), (2, .int x.1)] [] x.2) (fhK (fun x => fhW fhYM Γ 2 [(0, .ref 0), (1, .int x.1)] [] x.2) (fun o => fhRet Γ none o))) o) : fhW fhYM Γ 12 [(0, .ref 0), (1, .int v1), (2, .int v2)] [] σ := by
  unfold f_X12_laysGroups_12 at h
  refine fhW.blk fhPM fhLL hΓ [(.iload_n 2, 0), (.aload_n 0, 0), (.getfield 432, 0)] (pc' := 17) (lv' := [(0, .ref 0), (1, .int v1), (2, .int v2)]) (st' := [.int (σ.1 0 52), .int v2]) (σ' := σ) (by decide +kernel) rfl rfl rfl ?_
  refine fhW.i_ge hΓ (tgt := 33) (show fhbk _ _ (.if_icmp .ge (16)) _ = true by decide +kernel) (fun hc => ?_) (fun hc => ?_)
  · rw [if_pos hc] at h
    refine fhW.blk fhPM fhLL hΓ [(.iconst 0, 0), (.istore_n 2, 0)] (pc' := 35) (lv' := [(2, .int (0 : Int32)), (0, .ref 0), (1, .int v1)]) (st' := []) (σ' := σ) (by decide +kernel) rfl rfl rfl ?_
    refine fhW.sub (lv' := [(0, .ref 0), (1, .int v1), (2, .int (0 : Int32))]) [1, 2, 0] rfl ?_
    obtain ⟨z1, hz, e1⟩ := Option.map_eq_some_iff.mp h
    clear h
    subst e1
    have h := hz
    have hk : (fhK (fun x => fhW fhYM Γ 2 [(0, .ref 0), (1, .int x.1)] [] x.2) (fun o => fhRet Γ none o)) z1 := hk
    exact fhlp_ok (W := (fun x => fhW fhYM Γ 35 [(0, .ref 0), (1, .int v1), (2, .int x.1)] [] x.2)) (B := (fhK (fun x => fhW fhYM Γ 2 [(0, .ref 0), (1, .int x.1)] [] x.2) (fun o => fhRet Γ none o))) (fun x o h hk => L_X12_laysGroups_35 hΓ hd v1 x.1 x.2 o h hk) ((0 : Int32), σ) _ h hk
  · rw [if_neg hc] at h
    obtain ⟨hg5, h⟩ := fhif h
    refine fhW.blk fhPM fhLL hΓ [(.aload_n 0, 0), (.getfield 144, 0), (.iload_n 2, 0), (.iconst (-1), -1), (.iastore, 0), (.iinc 2 1, 1)] (pc' := 30) (lv' := [(2, .int (v2 + (1 : Int32))), (0, .ref 0), (1, .int v1)]) (st' := []) (σ' := (fhI σ 43 (fhix v2) (-1 : Int32))) (by decide +kernel) rfl rfl hg5 ?_
    refine fhW.goto hΓ (off := (-18)) (tgt := 12) (by decide +kernel) ?_
    refine fhW.sub (lv' := [(0, .ref 0), (1, .int v1), (2, .int (v2 + (1 : Int32)))]) [1, 2, 0] rfl ?_
    have e9 := Option.some.inj h
    subst e9
    exact hk
set_option maxRecDepth 100000 in
set_option maxHeartbeats 4000000 in
theorem L_X12_laysGroups_2 {Γ : fhX} (hΓ : fhOk fhYM 12 cX12_laysGroups 4 none Γ) (hd : 1 ≤ fhD Γ) (v1 : Int32)  (σ : fhM) (o : (Int32 × fhM) ⊕ (fhM)) (h : f_X12_laysGroups_2 v1 σ = some o) (hk : (fhK (fun x => fhW fhYM Γ 2 [(0, .ref 0), (1, .int x.1)] [] x.2) (fun o => fhRet Γ none o)) o) : fhW fhYM Γ 2 [(0, .ref 0), (1, .int v1)] [] σ := by
  unfold f_X12_laysGroups_2 at h
  refine fhW.blk fhPM fhLL hΓ [(.iload_n 1, 0), (.aload_n 0, 0)] (pc' := 4) (lv' := [(0, .ref 0), (1, .int v1)]) (st' := [.ref 0, .int v1]) (σ' := σ) (by decide +kernel) rfl rfl rfl ?_
  refine fhW.callv hΓ mvX12_guestMany ml_12_423 (t := 0) (ci := 12) (av := []) (rest := [.int v1]) (r := (some (.int (f_X12_guestMany σ)))) (σ' := σ) (T_X12_guestMany (E := fhEn Γ) (d := fhD Γ - 1) (by omega) σ) (by omega) (by decide +kernel) rfl rfl rfl (Nat.le_of_ble_eq_true rfl) rfl ?_
  show fhW fhYM Γ 7 [(0, .ref 0), (1, .int v1)] [.int (f_X12_guestMany σ), .int v1] σ
  refine fhW.i_ge hΓ (tgt := 115) (show fhbk _ _ (.if_icmp .ge (108)) _ = true by decide +kernel) (fun hc => ?_) (fun hc => ?_)
  · rw [if_pos hc] at h
    have e9 := Option.some.inj h
    subst e9
    exact fhW.vret hΓ (by decide +kernel) hk
  · rw [if_neg hc] at h
    refine fhW.blk fhPM fhLL hΓ [(.iconst 0, 0), (.istore_n 2, 0)] (pc' := 12) (lv' := [(2, .int (0 : Int32)), (0, .ref 0), (1, .int v1)]) (st' := []) (σ' := σ) (by decide +kernel) rfl rfl rfl ?_
    refine fhW.sub (lv' := [(0, .ref 0), (1, .int v1), (2, .int (0 : Int32))]) [1, 2, 0] rfl ?_
    exact fhlp_ok (W := (fun x => fhW fhYM Γ 12 [(0, .ref 0), (1, .int v1), (2, .int x.1)] [] x.2)) (B := (fhK (fun x => fhW fhYM Γ 2 [(0, .ref 0), (1, .int x.1)] [] x.2) (fun o => fhRet Γ none o))) (fun x o h hk => L_X12_laysGroups_12 hΓ hd v1 x.1 x.2 o h hk) ((0 : Int32), σ) _ h hk
set_option maxRecDepth 100000 in
set_option maxHeartbeats 4000000 in
theorem L_X12_laysGroups_E {Γ : fhX} (hΓ : fhOk fhYM 12 cX12_laysGroups 4 none Γ) (hd : 1 ≤ fhD Γ)   (σ : fhM) (o : fhM) (h : f_X12_laysGroups σ = some o) (hk : (fun o => fhRet Γ none o) o) : fhW fhYM Γ 0 [(0, .ref 0)] [] σ := by
  unfold f_X12_laysGroups at h
  refine fhW.blk fhPM fhLL hΓ [(.iconst 0, 0), (.istore_n 1, 0)] (pc' := 2) (lv' := [(1, .int (0 : Int32)), (0, .ref 0)]) (st' := []) (σ' := σ) (by decide +kernel) rfl rfl rfl ?_
  refine fhW.sub (lv' := [(0, .ref 0), (1, .int (0 : Int32))]) [1, 0] rfl ?_
  exact fhlp_ok (W := (fun x => fhW fhYM Γ 2 [(0, .ref 0), (1, .int x.1)] [] x.2)) (B := (fun o => fhRet Γ none o)) (fun x o h hk => L_X12_laysGroups_2 hΓ hd x.1 x.2 o h hk) ((0 : Int32), σ) _ h hk
set_option maxRecDepth 100000 in
theorem T_X12_laysGroups {E : fhE} {d : Nat} (hd : 1 ≤ d)   (σ : fhM) {o : fhM} (h : f_X12_laysGroups σ = some o) : fhC fhYM E d miX12_laysGroups [.ref 0] σ none o := by
  refine fhC.of (y := yX12_laysGroups) (cc := cX12_laysGroups) (nL := 4) (ret := none) 12 rfl (by decide +kernel) (Nat.le_of_ble_eq_true rfl) ?_
  intro Γ hΓ hR hD hEn
  subst hD; subst hEn
  exact L_X12_laysGroups_E hΓ hd   σ _ h hR
set_option maxRecDepth 100000 in
set_option maxHeartbeats 4000000 in
theorem L_X12_laysRound_175 {Γ : fhX} (hΓ : fhOk fhYM 12 cX12_laysRound 4 none Γ) (hd : 2 ≤ fhD Γ) (v1 : Int32) (v2 : Int32) (v3 : Int32)  (σ : fhM) (o : (Int32 × fhM) ⊕ ((Int32 × fhM) ⊕ (fhM))) (h : f_X12_laysRound_175 v1 v2 v3 σ = some o) (hk : (fhK (fun x => fhW fhYM Γ 117 [(0, .ref 0), (1, .int v1), (2, .int v2), (3, .int x.1)] [] x.2) (fhK (fun x => fhW fhYM Γ 31 [(0, .ref 0), (1, .int v1), (2, .int x.1)] [] x.2) (fun o => fhRet Γ none o))) o) : fhW fhYM Γ 175 [(0, .ref 0), (1, .int v1), (2, .int v2), (3, .int v3)] [] σ := by
  unfold f_X12_laysRound_175 at h
  refine fhW.blk fhPM fhLL hΓ [(.iinc 3 1, 1)] (pc' := 178) (lv' := [(3, .int (v3 + (1 : Int32))), (0, .ref 0), (1, .int v1), (2, .int v2)]) (st' := []) (σ' := σ) (by decide +kernel) rfl rfl rfl ?_
  refine fhW.goto hΓ (off := (-61)) (tgt := 117) (by decide +kernel) ?_
  refine fhW.sub (lv' := [(0, .ref 0), (1, .int v1), (2, .int v2), (3, .int (v3 + (1 : Int32)))]) [1, 2, 3, 0] rfl ?_
  have e9 := Option.some.inj h
  subst e9
  exact hk
set_option maxRecDepth 100000 in
set_option maxHeartbeats 4000000 in
theorem L_X12_laysRound_117 {Γ : fhX} (hΓ : fhOk fhYM 12 cX12_laysRound 4 none Γ) (hd : 2 ≤ fhD Γ) (v1 : Int32) (v2 : Int32) (v3 : Int32)  (σ : fhM) (o : (Int32 × fhM) ⊕ ((Int32 × fhM) ⊕ (fhM))) (h : f_X12_laysRound_117 v1 v2 v3 σ = some o) (hk : (fhK (fun x => fhW fhYM Γ 117 [(0, .ref 0), (1, .int v1), (2, .int v2), (3, .int x.1)] [] x.2) (fhK (fun x => fhW fhYM Γ 31 [(0, .ref 0), (1, .int v1), (2, .int x.1)] [] x.2) (fun o => fhRet Γ none o))) o) : fhW fhYM Γ 117 [(0, .ref 0), (1, .int v1), (2, .int v2), (3, .int v3)] [] σ := by
  unfold f_X12_laysRound_117 at h
  refine fhW.blk fhPM fhLL hΓ [(.iload_n 3, 0), (.aload_n 0, 0), (.getfield 432, 0)] (pc' := 122) (lv' := [(0, .ref 0), (1, .int v1), (2, .int v2), (3, .int v3)]) (st' := [.int (σ.1 0 52), .int v3]) (σ' := σ) (by decide +kernel) rfl rfl rfl ?_
  refine fhW.i_ge hΓ (tgt := 181) (show fhbk _ _ (.if_icmp .ge (59)) _ = true by decide +kernel) (fun hc => ?_) (fun hc => ?_)
  · rw [if_pos hc] at h
    refine fhW.blk fhPM fhLL hΓ [(.iinc 2 1, 1)] (pc' := 184) (lv' := [(2, .int (v2 + (1 : Int32))), (0, .ref 0), (1, .int v1), (3, .int v3)]) (st' := []) (σ' := σ) (by decide +kernel) rfl rfl rfl ?_
    refine fhW.goto hΓ (off := (-153)) (tgt := 31) (by decide +kernel) ?_
    refine fhW.sub (lv' := [(0, .ref 0), (1, .int v1), (2, .int (v2 + (1 : Int32)))]) [1, 2, 0] rfl ?_
    have e9 := Option.some.inj h
    subst e9
    exact hk
  · rw [if_neg hc] at h
    obtain ⟨hg1, h⟩ := fhif h
    refine fhW.blk fhPM fhLL hΓ [(.aload_n 0, 0), (.getfield 124, 0), (.iload_n 3, 0), (.baload, 0)] (pc' := 131) (lv' := [(0, .ref 0), (1, .int v1), (2, .int v2), (3, .int v3)]) (st' := [.int (σ.1 37 (fhix v3))]) (σ' := σ) (by decide +kernel) rfl rfl hg1 ?_
    refine fhW.z_eq hΓ (tgt := 175) (show fhbk _ _ (.ifCond .eq (44)) _ = true by decide +kernel) (fun hc => ?_) (fun hc => ?_)
    · rw [if_pos hc] at h
      refine fhW.sub (lv' := [(0, .ref 0), (1, .int v1), (2, .int v2), (3, .int v3)]) [0, 1, 2, 3] rfl ?_
      exact L_X12_laysRound_175 hΓ hd v1 v2 v3 σ _ h hk
    · rw [if_neg hc] at h
      obtain ⟨hg2, h⟩ := fhif h
      refine fhW.blk fhPM fhLL hΓ [(.aload_n 0, 0), (.getfield 140, 0), (.aload_n 0, 0), (.getfield 137, 0), (.sipush 1024, 1024), (.iload_n 2, 0), (.imul, 0), (.iload_n 3, 0), (.iadd, 0), (.iaload, 0), (.iaload, 0)] (pc' := 151) (lv' := [(0, .ref 0), (1, .int v1), (2, .int v2), (3, .int v3)]) (st' := [.int (σ.1 42 (fhix (σ.1 41 (fhix (((1024 : Int32) * v2) + v3)))))]) (σ' := σ) (by decide +kernel) rfl rfl hg2 ?_
      refine fhW.calls hΓ msX12_isOne ml_12_460 (av := [.int (σ.1 42 (fhix (σ.1 41 (fhix (((1024 : Int32) * v2) + v3)))))]) (rest := []) (r := (some (.int (fhb (f_X12_isOne (σ.1 42 (fhix (σ.1 41 (fhix (((1024 : Int32) * v2) + v3))))) σ))))) (σ' := σ) (T_X12_isOne (E := fhEn Γ) (d := fhD Γ - 1) (by omega) (σ.1 42 (fhix (σ.1 41 (fhix (((1024 : Int32) * v2) + v3))))) σ) (by omega) (by decide +kernel) rfl (Nat.le_of_ble_eq_true rfl) rfl ?_
      show fhW fhYM Γ 154 [(0, .ref 0), (1, .int v1), (2, .int v2), (3, .int v3)] [.int (fhb (f_X12_isOne (σ.1 42 (fhix (σ.1 41 (fhix (((1024 : Int32) * v2) + v3))))) σ))] σ
      refine fhW.b_eq hΓ (tgt := 175) (show fhbk _ _ (.ifCond .eq (21)) _ = true by decide +kernel) (fun hc => ?_) (fun hc => ?_)
      · rw [if_neg hc] at h
        refine fhW.sub (lv' := [(0, .ref 0), (1, .int v1), (2, .int v2), (3, .int v3)]) [0, 1, 2, 3] rfl ?_
        exact L_X12_laysRound_175 hΓ hd v1 v2 v3 σ _ h hk
      · rw [if_pos hc] at h
        obtain ⟨hg3, h⟩ := fhif h
        refine fhW.blk fhPM fhLL hΓ [(.aload_n 0, 0), (.getfield 134, 0), (.sipush 1024, 1024), (.iload_n 1, 0), (.imul, 0), (.iload_n 3, 0), (.iadd, 0), (.dup2, 0), (.iaload, 0), (.iconst 1, 1), (.iload_n 2, 0), (.ishl, 0), (.ior, 0), (.iastore, 0)] (pc' := 175) (lv' := [(0, .ref 0), (1, .int v1), (2, .int v2), (3, .int v3)]) (st' := []) (σ' := (fhI σ 40 (fhix (((1024 : Int32) * v1) + v3)) ((σ.1 40 (fhix (((1024 : Int32) * v1) + v3))) ||| ((1 : Int32) <<< (v2 &&& 31))))) (by decide +kernel) rfl rfl hg3 ?_
        refine fhW.sub (lv' := [(0, .ref 0), (1, .int v1), (2, .int v2), (3, .int v3)]) [0, 1, 2, 3] rfl ?_
        exact L_X12_laysRound_175 hΓ hd v1 v2 v3 (fhI σ 40 (fhix (((1024 : Int32) * v1) + v3)) ((σ.1 40 (fhix (((1024 : Int32) * v1) + v3))) ||| ((1 : Int32) <<< (v2 &&& 31)))) _ h hk
set_option maxRecDepth 100000 in
set_option maxHeartbeats 4000000 in
theorem L_X12_laysRound_109 {Γ : fhX} (hΓ : fhOk fhYM 12 cX12_laysRound 4 none Γ) (hd : 2 ≤ fhD Γ) (v1 : Int32) (v2 : Int32) (v3 : Int32)  (σ : fhM) (o : (Int32 × fhM) ⊕ ((Int32 × fhM) ⊕ (fhM))) (h : f_X12_laysRound_109 v1 v2 v3 σ = some o) (hk : (fhK (fun x => fhW fhYM Γ 64 [(0, .ref 0), (1, .int v1), (2, .int v2), (3, .int x.1)] [] x.2) (fhK (fun x => fhW fhYM Γ 31 [(0, .ref 0), (1, .int v1), (2, .int x.1)] [] x.2) (fun o => fhRet Γ none o))) o) : fhW fhYM Γ 109 [(0, .ref 0), (1, .int v1), (2, .int v2), (3, .int v3)] [] σ := by
  unfold f_X12_laysRound_109 at h
  refine fhW.blk fhPM fhLL hΓ [(.iinc 3 1, 1)] (pc' := 112) (lv' := [(3, .int (v3 + (1 : Int32))), (0, .ref 0), (1, .int v1), (2, .int v2)]) (st' := []) (σ' := σ) (by decide +kernel) rfl rfl rfl ?_
  refine fhW.goto hΓ (off := (-48)) (tgt := 64) (by decide +kernel) ?_
  refine fhW.sub (lv' := [(0, .ref 0), (1, .int v1), (2, .int v2), (3, .int (v3 + (1 : Int32)))]) [1, 2, 3, 0] rfl ?_
  have e9 := Option.some.inj h
  subst e9
  exact hk
set_option maxRecDepth 100000 in
set_option maxHeartbeats 4000000 in
theorem L_X12_laysRound_64 {Γ : fhX} (hΓ : fhOk fhYM 12 cX12_laysRound 4 none Γ) (hd : 2 ≤ fhD Γ) (v1 : Int32) (v2 : Int32) (v3 : Int32)  (σ : fhM) (o : (Int32 × fhM) ⊕ ((Int32 × fhM) ⊕ (fhM))) (h : f_X12_laysRound_64 v1 v2 v3 σ = some o) (hk : (fhK (fun x => fhW fhYM Γ 64 [(0, .ref 0), (1, .int v1), (2, .int v2), (3, .int x.1)] [] x.2) (fhK (fun x => fhW fhYM Γ 31 [(0, .ref 0), (1, .int v1), (2, .int x.1)] [] x.2) (fun o => fhRet Γ none o))) o) : fhW fhYM Γ 64 [(0, .ref 0), (1, .int v1), (2, .int v2), (3, .int v3)] [] σ := by
  unfold f_X12_laysRound_64 at h
  refine fhW.blk fhPM fhLL hΓ [(.iload_n 3, 0), (.aload_n 0, 0), (.getfield 432, 0)] (pc' := 69) (lv' := [(0, .ref 0), (1, .int v1), (2, .int v2), (3, .int v3)]) (st' := [.int (σ.1 0 52), .int v3]) (σ' := σ) (by decide +kernel) rfl rfl rfl ?_
  refine fhW.i_ge hΓ (tgt := 115) (show fhbk _ _ (.if_icmp .ge (46)) _ = true by decide +kernel) (fun hc => ?_) (fun hc => ?_)
  · rw [if_pos hc] at h
    refine fhW.blk fhPM fhLL hΓ [(.iconst 0, 0), (.istore_n 3, 0)] (pc' := 117) (lv' := [(3, .int (0 : Int32)), (0, .ref 0), (1, .int v1), (2, .int v2)]) (st' := []) (σ' := σ) (by decide +kernel) rfl rfl rfl ?_
    refine fhW.sub (lv' := [(0, .ref 0), (1, .int v1), (2, .int v2), (3, .int (0 : Int32))]) [1, 2, 3, 0] rfl ?_
    obtain ⟨z1, hz, e1⟩ := Option.map_eq_some_iff.mp h
    clear h
    subst e1
    have h := hz
    have hk : (fhK (fun x => fhW fhYM Γ 31 [(0, .ref 0), (1, .int v1), (2, .int x.1)] [] x.2) (fun o => fhRet Γ none o)) z1 := hk
    exact fhlp_ok (W := (fun x => fhW fhYM Γ 117 [(0, .ref 0), (1, .int v1), (2, .int v2), (3, .int x.1)] [] x.2)) (B := (fhK (fun x => fhW fhYM Γ 31 [(0, .ref 0), (1, .int v1), (2, .int x.1)] [] x.2) (fun o => fhRet Γ none o))) (fun x o h hk => L_X12_laysRound_117 hΓ hd v1 v2 x.1 x.2 o h hk) ((0 : Int32), σ) _ h hk
  · rw [if_neg hc] at h
    obtain ⟨hg4, h⟩ := fhif h
    refine fhW.blk fhPM fhLL hΓ [(.aload_n 0, 0), (.getfield 124, 0), (.iload_n 3, 0), (.baload, 0)] (pc' := 78) (lv' := [(0, .ref 0), (1, .int v1), (2, .int v2), (3, .int v3)]) (st' := [.int (σ.1 37 (fhix v3))]) (σ' := σ) (by decide +kernel) rfl rfl hg4 ?_
    refine fhW.z_eq hΓ (tgt := 109) (show fhbk _ _ (.ifCond .eq (31)) _ = true by decide +kernel) (fun hc => ?_) (fun hc => ?_)
    · rw [if_pos hc] at h
      refine fhW.sub (lv' := [(0, .ref 0), (1, .int v1), (2, .int v2), (3, .int v3)]) [0, 1, 2, 3] rfl ?_
      exact L_X12_laysRound_109 hΓ hd v1 v2 v3 σ _ h hk
    · rw [if_neg hc] at h
      obtain ⟨hg5, h⟩ := fhif h
      refine fhW.blk fhPM fhLL hΓ [(.aload_n 0, 0), (.getfield 140, 0), (.aload_n 0, 0), (.getfield 137, 0), (.sipush 1024, 1024), (.iload_n 2, 0), (.imul, 0), (.iload_n 3, 0), (.iadd, 0), (.iaload, 0), (.dup2, 0), (.iaload, 0), (.iconst 1, 1), (.aload_n 0, 0), (.iload_n 3, 0), (.iload_n 2, 0)] (pc' := 103) (lv' := [(0, .ref 0), (1, .int v1), (2, .int v2), (3, .int v3)]) (st' := [.int v2, .int v3, .ref 0, .int (1 : Int32), .int (σ.1 42 (fhix (σ.1 41 (fhix (((1024 : Int32) * v2) + v3))))), .int (σ.1 41 (fhix (((1024 : Int32) * v2) + v3))), .ref 42]) (σ' := σ) (by decide +kernel) rfl rfl hg5 ?_
      obtain ⟨q1, hb1, h⟩ := Option.bind_eq_some_iff.mp h
      refine fhW.callv hΓ mvX12_markOf ml_12_429 (t := 0) (ci := 12) (av := [.int v3, .int v2]) (rest := [.int (1 : Int32), .int (σ.1 42 (fhix (σ.1 41 (fhix (((1024 : Int32) * v2) + v3))))), .int (σ.1 41 (fhix (((1024 : Int32) * v2) + v3))), .ref 42]) (r := (some (.int q1))) (σ' := σ) (T_X12_markOf (E := fhEn Γ) (d := fhD Γ - 1) (by omega) v3 v2 σ hb1) (by omega) (by decide +kernel) rfl rfl rfl (Nat.le_of_ble_eq_true rfl) rfl ?_
      show fhW fhYM Γ 106 [(0, .ref 0), (1, .int v1), (2, .int v2), (3, .int v3)] [.int q1, .int (1 : Int32), .int (σ.1 42 (fhix (σ.1 41 (fhix (((1024 : Int32) * v2) + v3))))), .int (σ.1 41 (fhix (((1024 : Int32) * v2) + v3))), .ref 42] σ
      obtain ⟨hg6, h⟩ := fhif h
      refine fhW.blk fhPM fhLL hΓ [(.ishl, 0), (.ior, 0), (.iastore, 0)] (pc' := 109) (lv' := [(0, .ref 0), (1, .int v1), (2, .int v2), (3, .int v3)]) (st' := []) (σ' := (fhI σ 42 (fhix (σ.1 41 (fhix (((1024 : Int32) * v2) + v3)))) ((σ.1 42 (fhix (σ.1 41 (fhix (((1024 : Int32) * v2) + v3))))) ||| ((1 : Int32) <<< (q1 &&& 31))))) (by decide +kernel) rfl rfl hg6 ?_
      refine fhW.sub (lv' := [(0, .ref 0), (1, .int v1), (2, .int v2), (3, .int v3)]) [0, 1, 2, 3] rfl ?_
      exact L_X12_laysRound_109 hΓ hd v1 v2 v3 (fhI σ 42 (fhix (σ.1 41 (fhix (((1024 : Int32) * v2) + v3)))) ((σ.1 42 (fhix (σ.1 41 (fhix (((1024 : Int32) * v2) + v3))))) ||| ((1 : Int32) <<< (q1 &&& 31)))) _ h hk
set_option maxRecDepth 100000 in
set_option maxHeartbeats 4000000 in
theorem L_X12_laysRound_41 {Γ : fhX} (hΓ : fhOk fhYM 12 cX12_laysRound 4 none Γ) (hd : 2 ≤ fhD Γ) (v1 : Int32) (v2 : Int32) (v3 : Int32)  (σ : fhM) (o : (Int32 × fhM) ⊕ ((Int32 × fhM) ⊕ (fhM))) (h : f_X12_laysRound_41 v1 v2 v3 σ = some o) (hk : (fhK (fun x => fhW fhYM Γ 41 [(0, .ref 0), (1, .int v1), (2, .int v2), (3, .int x.1)] [] x.2) (fhK (fun x => fhW fhYM Γ 31 [(0, .ref 0), (1, .int v1), (2, .int x.1)] [] x.2) (fun o => fhRet Γ none o))) o) : fhW fhYM Γ 41 [(0, .ref 0), (1, .int v1), (2, .int v2), (3, .int v3)] [] σ := by
  unfold f_X12_laysRound_41 at h
  refine fhW.blk fhPM fhLL hΓ [(.iload_n 3, 0), (.aload_n 0, 0), (.getfield 432, 0)] (pc' := 46) (lv' := [(0, .ref 0), (1, .int v1), (2, .int v2), (3, .int v3)]) (st' := [.int (σ.1 0 52), .int v3]) (σ' := σ) (by decide +kernel) rfl rfl rfl ?_
  refine fhW.i_ge hΓ (tgt := 62) (show fhbk _ _ (.if_icmp .ge (16)) _ = true by decide +kernel) (fun hc => ?_) (fun hc => ?_)
  · rw [if_pos hc] at h
    refine fhW.blk fhPM fhLL hΓ [(.iconst 0, 0), (.istore_n 3, 0)] (pc' := 64) (lv' := [(3, .int (0 : Int32)), (0, .ref 0), (1, .int v1), (2, .int v2)]) (st' := []) (σ' := σ) (by decide +kernel) rfl rfl rfl ?_
    refine fhW.sub (lv' := [(0, .ref 0), (1, .int v1), (2, .int v2), (3, .int (0 : Int32))]) [1, 2, 3, 0] rfl ?_
    obtain ⟨z2, hz, e2⟩ := Option.map_eq_some_iff.mp h
    clear h
    subst e2
    have h := hz
    have hk : (fhK (fun x => fhW fhYM Γ 31 [(0, .ref 0), (1, .int v1), (2, .int x.1)] [] x.2) (fun o => fhRet Γ none o)) z2 := hk
    exact fhlp_ok (W := (fun x => fhW fhYM Γ 64 [(0, .ref 0), (1, .int v1), (2, .int v2), (3, .int x.1)] [] x.2)) (B := (fhK (fun x => fhW fhYM Γ 31 [(0, .ref 0), (1, .int v1), (2, .int x.1)] [] x.2) (fun o => fhRet Γ none o))) (fun x o h hk => L_X12_laysRound_64 hΓ hd v1 v2 x.1 x.2 o h hk) ((0 : Int32), σ) _ h hk
  · rw [if_neg hc] at h
    obtain ⟨hg7, h⟩ := fhif h
    refine fhW.blk fhPM fhLL hΓ [(.aload_n 0, 0), (.getfield 140, 0), (.iload_n 3, 0), (.iconst 0, 0), (.iastore, 0), (.iinc 3 1, 1)] (pc' := 59) (lv' := [(3, .int (v3 + (1 : Int32))), (0, .ref 0), (1, .int v1), (2, .int v2)]) (st' := []) (σ' := (fhI σ 42 (fhix v3) (0 : Int32))) (by decide +kernel) rfl rfl hg7 ?_
    refine fhW.goto hΓ (off := (-18)) (tgt := 41) (by decide +kernel) ?_
    refine fhW.sub (lv' := [(0, .ref 0), (1, .int v1), (2, .int v2), (3, .int (v3 + (1 : Int32)))]) [1, 2, 3, 0] rfl ?_
    have e9 := Option.some.inj h
    subst e9
    exact hk
set_option maxRecDepth 100000 in
set_option maxHeartbeats 4000000 in
theorem L_X12_laysRound_31 {Γ : fhX} (hΓ : fhOk fhYM 12 cX12_laysRound 4 none Γ) (hd : 2 ≤ fhD Γ) (v1 : Int32) (v2 : Int32)  (σ : fhM) (o : (Int32 × fhM) ⊕ (fhM)) (h : f_X12_laysRound_31 v1 v2 σ = some o) (hk : (fhK (fun x => fhW fhYM Γ 31 [(0, .ref 0), (1, .int v1), (2, .int x.1)] [] x.2) (fun o => fhRet Γ none o)) o) : fhW fhYM Γ 31 [(0, .ref 0), (1, .int v1), (2, .int v2)] [] σ := by
  unfold f_X12_laysRound_31 at h
  refine fhW.blk fhPM fhLL hΓ [(.iload_n 2, 0), (.aload_n 0, 0)] (pc' := 33) (lv' := [(0, .ref 0), (1, .int v1), (2, .int v2)]) (st' := [.ref 0, .int v2]) (σ' := σ) (by decide +kernel) rfl rfl rfl ?_
  refine fhW.callv hΓ mvX12_guestMany ml_12_423 (t := 0) (ci := 12) (av := []) (rest := [.int v2]) (r := (some (.int (f_X12_guestMany σ)))) (σ' := σ) (T_X12_guestMany (E := fhEn Γ) (d := fhD Γ - 1) (by omega) σ) (by omega) (by decide +kernel) rfl rfl rfl (Nat.le_of_ble_eq_true rfl) rfl ?_
  show fhW fhYM Γ 36 [(0, .ref 0), (1, .int v1), (2, .int v2)] [.int (f_X12_guestMany σ), .int v2] σ
  refine fhW.i_ge hΓ (tgt := 187) (show fhbk _ _ (.if_icmp .ge (151)) _ = true by decide +kernel) (fun hc => ?_) (fun hc => ?_)
  · rw [if_pos hc] at h
    have e9 := Option.some.inj h
    subst e9
    exact fhW.vret hΓ (by decide +kernel) hk
  · rw [if_neg hc] at h
    refine fhW.blk fhPM fhLL hΓ [(.iconst 0, 0), (.istore_n 3, 0)] (pc' := 41) (lv' := [(3, .int (0 : Int32)), (0, .ref 0), (1, .int v1), (2, .int v2)]) (st' := []) (σ' := σ) (by decide +kernel) rfl rfl rfl ?_
    refine fhW.sub (lv' := [(0, .ref 0), (1, .int v1), (2, .int v2), (3, .int (0 : Int32))]) [1, 2, 3, 0] rfl ?_
    exact fhlp_ok (W := (fun x => fhW fhYM Γ 41 [(0, .ref 0), (1, .int v1), (2, .int v2), (3, .int x.1)] [] x.2)) (B := (fhK (fun x => fhW fhYM Γ 31 [(0, .ref 0), (1, .int v1), (2, .int x.1)] [] x.2) (fun o => fhRet Γ none o))) (fun x o h hk => L_X12_laysRound_41 hΓ hd v1 v2 x.1 x.2 o h hk) ((0 : Int32), σ) _ h hk
set_option maxRecDepth 100000 in
set_option maxHeartbeats 4000000 in
theorem L_X12_laysRound_2 {Γ : fhX} (hΓ : fhOk fhYM 12 cX12_laysRound 4 none Γ) (hd : 2 ≤ fhD Γ) (v1 : Int32) (v2 : Int32)  (σ : fhM) (o : (Int32 × fhM) ⊕ (fhM)) (h : f_X12_laysRound_2 v1 v2 σ = some o) (hk : (fhK (fun x => fhW fhYM Γ 2 [(0, .ref 0), (1, .int v1), (2, .int x.1)] [] x.2) (fun o => fhRet Γ none o)) o) : fhW fhYM Γ 2 [(0, .ref 0), (1, .int v1), (2, .int v2)] [] σ := by
  unfold f_X12_laysRound_2 at h
  refine fhW.blk fhPM fhLL hΓ [(.iload_n 2, 0), (.aload_n 0, 0), (.getfield 432, 0)] (pc' := 7) (lv' := [(0, .ref 0), (1, .int v1), (2, .int v2)]) (st' := [.int (σ.1 0 52), .int v2]) (σ' := σ) (by decide +kernel) rfl rfl rfl ?_
  refine fhW.i_ge hΓ (tgt := 29) (show fhbk _ _ (.if_icmp .ge (22)) _ = true by decide +kernel) (fun hc => ?_) (fun hc => ?_)
  · rw [if_pos hc] at h
    refine fhW.blk fhPM fhLL hΓ [(.iconst 0, 0), (.istore_n 2, 0)] (pc' := 31) (lv' := [(2, .int (0 : Int32)), (0, .ref 0), (1, .int v1)]) (st' := []) (σ' := σ) (by decide +kernel) rfl rfl rfl ?_
    refine fhW.sub (lv' := [(0, .ref 0), (1, .int v1), (2, .int (0 : Int32))]) [1, 2, 0] rfl ?_
    obtain ⟨z3, hz, e3⟩ := Option.map_eq_some_iff.mp h
    clear h
    subst e3
    have h := hz
    have hk : (fun o => fhRet Γ none o) z3 := hk
    exact fhlp_ok (W := (fun x => fhW fhYM Γ 31 [(0, .ref 0), (1, .int v1), (2, .int x.1)] [] x.2)) (B := (fun o => fhRet Γ none o)) (fun x o h hk => L_X12_laysRound_31 hΓ hd v1 x.1 x.2 o h hk) ((0 : Int32), σ) _ h hk
  · rw [if_neg hc] at h
    obtain ⟨hg8, h⟩ := fhif h
    refine fhW.blk fhPM fhLL hΓ [(.aload_n 0, 0), (.getfield 134, 0), (.sipush 1024, 1024), (.iload_n 1, 0), (.imul, 0), (.iload_n 2, 0), (.iadd, 0), (.iconst 0, 0), (.iastore, 0), (.iinc 2 1, 1)] (pc' := 26) (lv' := [(2, .int (v2 + (1 : Int32))), (0, .ref 0), (1, .int v1)]) (st' := []) (σ' := (fhI σ 40 (fhix (((1024 : Int32) * v1) + v2)) (0 : Int32))) (by decide +kernel) rfl rfl hg8 ?_
    refine fhW.goto hΓ (off := (-24)) (tgt := 2) (by decide +kernel) ?_
    refine fhW.sub (lv' := [(0, .ref 0), (1, .int v1), (2, .int (v2 + (1 : Int32)))]) [1, 2, 0] rfl ?_
    have e9 := Option.some.inj h
    subst e9
    exact hk
set_option maxRecDepth 100000 in
set_option maxHeartbeats 4000000 in
theorem L_X12_laysRound_E {Γ : fhX} (hΓ : fhOk fhYM 12 cX12_laysRound 4 none Γ) (hd : 2 ≤ fhD Γ) (v1 : Int32)  (σ : fhM) (o : fhM) (h : f_X12_laysRound v1 σ = some o) (hk : (fun o => fhRet Γ none o) o) : fhW fhYM Γ 0 [(0, .ref 0), (1, .int v1)] [] σ := by
  unfold f_X12_laysRound at h
  refine fhW.blk fhPM fhLL hΓ [(.iconst 0, 0), (.istore_n 2, 0)] (pc' := 2) (lv' := [(2, .int (0 : Int32)), (0, .ref 0), (1, .int v1)]) (st' := []) (σ' := σ) (by decide +kernel) rfl rfl rfl ?_
  refine fhW.sub (lv' := [(0, .ref 0), (1, .int v1), (2, .int (0 : Int32))]) [1, 2, 0] rfl ?_
  exact fhlp_ok (W := (fun x => fhW fhYM Γ 2 [(0, .ref 0), (1, .int v1), (2, .int x.1)] [] x.2)) (B := (fun o => fhRet Γ none o)) (fun x o h hk => L_X12_laysRound_2 hΓ hd v1 x.1 x.2 o h hk) ((0 : Int32), σ) _ h hk
set_option maxRecDepth 100000 in
theorem T_X12_laysRound {E : fhE} {d : Nat} (hd : 2 ≤ d) (v1 : Int32)  (σ : fhM) {o : fhM} (h : f_X12_laysRound v1 σ = some o) : fhC fhYM E d miX12_laysRound [.ref 0, .int v1] σ none o := by
  refine fhC.of (y := yX12_laysRound) (cc := cX12_laysRound) (nL := 4) (ret := none) 12 rfl (by decide +kernel) (Nat.le_of_ble_eq_true rfl) ?_
  intro Γ hΓ hR hD hEn
  subst hD; subst hEn
  exact L_X12_laysRound_E hΓ hd v1  σ _ h hR
set_option maxRecDepth 100000 in
set_option maxHeartbeats 4000000 in
theorem L_X12_splitsGroups_126 {Γ : fhX} (hΓ : fhOk fhYM 12 cX12_splitsGroups 5 none Γ) (hd : 1 ≤ fhD Γ) (v1 : Int32) (v2 : Int32) (v3 : Int32)  (σ : fhM) (o : (Int32 × fhM) ⊕ ((Int32 × fhM) ⊕ (fhM))) (h : f_X12_splitsGroups_126 v1 v2 v3 σ = some o) (hk : (fhK (fun x => fhW fhYM Γ 38 [(0, .ref 0), (1, .int v1), (2, .int v2), (3, .int x.1)] [] x.2) (fhK (fun x => fhW fhYM Γ 2 [(0, .ref 0), (1, .int v1), (2, .int x.1)] [] x.2) (fun o => fhRet Γ none o))) o) : fhW fhYM Γ 126 [(0, .ref 0), (1, .int v1), (2, .int v2), (3, .int v3)] [] σ := by
  unfold f_X12_splitsGroups_126 at h
  refine fhW.blk fhPM fhLL hΓ [(.iinc 3 1, 1)] (pc' := 129) (lv' := [(3, .int (v3 + (1 : Int32))), (0, .ref 0), (1, .int v1), (2, .int v2)]) (st' := []) (σ' := σ) (by decide +kernel) rfl rfl rfl ?_
  refine fhW.goto hΓ (off := (-91)) (tgt := 38) (by decide +kernel) ?_
  refine fhW.sub (lv' := [(0, .ref 0), (1, .int v1), (2, .int v2), (3, .int (v3 + (1 : Int32)))]) [1, 2, 3, 0] rfl ?_
  have e9 := Option.some.inj h
  subst e9
  exact hk
set_option maxRecDepth 100000 in
set_option maxHeartbeats 4000000 in
theorem L_X12_splitsGroups_107 {Γ : fhX} (hΓ : fhOk fhYM 12 cX12_splitsGroups 5 none Γ) (hd : 1 ≤ fhD Γ) (v1 : Int32) (v2 : Int32) (v3 : Int32) (v4 : Int32)  (σ : fhM) (o : (Int32 × fhM) ⊕ ((Int32 × fhM) ⊕ (fhM))) (h : f_X12_splitsGroups_107 v1 v2 v3 v4 σ = some o) (hk : (fhK (fun x => fhW fhYM Γ 38 [(0, .ref 0), (1, .int v1), (2, .int v2), (3, .int x.1)] [] x.2) (fhK (fun x => fhW fhYM Γ 2 [(0, .ref 0), (1, .int v1), (2, .int x.1)] [] x.2) (fun o => fhRet Γ none o))) o) : fhW fhYM Γ 107 [(0, .ref 0), (1, .int v1), (2, .int v2), (3, .int v3), (4, .int v4)] [] σ := by
  unfold f_X12_splitsGroups_107 at h
  obtain ⟨hg1, h⟩ := fhif h
  refine fhW.blk fhPM fhLL hΓ [(.aload_n 0, 0), (.getfield 137, 0), (.sipush 1024, 1024), (.iload_n 2, 0), (.imul, 0), (.iload_n 3, 0), (.iadd, 0), (.aload_n 0, 0), (.getfield 144, 0), (.iload 4, 0), (.iaload, 0), (.iastore, 0)] (pc' := 126) (lv' := [(0, .ref 0), (1, .int v1), (2, .int v2), (3, .int v3), (4, .int v4)]) (st' := []) (σ' := (fhI σ 41 (fhix (((1024 : Int32) * v2) + v3)) (σ.1 43 (fhix v4)))) (by decide +kernel) rfl rfl hg1 ?_
  refine fhW.sub (lv' := [(0, .ref 0), (1, .int v1), (2, .int v2), (3, .int v3)]) [0, 1, 2, 3] rfl ?_
  exact L_X12_splitsGroups_126 hΓ hd v1 v2 v3 (fhI σ 41 (fhix (((1024 : Int32) * v2) + v3)) (σ.1 43 (fhix v4))) _ h hk
set_option maxRecDepth 100000 in
set_option maxHeartbeats 4000000 in
theorem L_X12_splitsGroups_38 {Γ : fhX} (hΓ : fhOk fhYM 12 cX12_splitsGroups 5 none Γ) (hd : 1 ≤ fhD Γ) (v1 : Int32) (v2 : Int32) (v3 : Int32)  (σ : fhM) (o : (Int32 × fhM) ⊕ ((Int32 × fhM) ⊕ (fhM))) (h : f_X12_splitsGroups_38 v1 v2 v3 σ = some o) (hk : (fhK (fun x => fhW fhYM Γ 38 [(0, .ref 0), (1, .int v1), (2, .int v2), (3, .int x.1)] [] x.2) (fhK (fun x => fhW fhYM Γ 2 [(0, .ref 0), (1, .int v1), (2, .int x.1)] [] x.2) (fun o => fhRet Γ none o))) o) : fhW fhYM Γ 38 [(0, .ref 0), (1, .int v1), (2, .int v2), (3, .int v3)] [] σ := by
  unfold f_X12_splitsGroups_38 at h
  refine fhW.blk fhPM fhLL hΓ [(.iload_n 3, 0), (.aload_n 0, 0), (.getfield 432, 0)] (pc' := 43) (lv' := [(0, .ref 0), (1, .int v1), (2, .int v2), (3, .int v3)]) (st' := [.int (σ.1 0 52), .int v3]) (σ' := σ) (by decide +kernel) rfl rfl rfl ?_
  refine fhW.i_ge hΓ (tgt := 132) (show fhbk _ _ (.if_icmp .ge (89)) _ = true by decide +kernel) (fun hc => ?_) (fun hc => ?_)
  · rw [if_pos hc] at h
    refine fhW.blk fhPM fhLL hΓ [(.iinc 2 1, 1)] (pc' := 135) (lv' := [(2, .int (v2 + (1 : Int32))), (0, .ref 0), (1, .int v1), (3, .int v3)]) (st' := []) (σ' := σ) (by decide +kernel) rfl rfl rfl ?_
    refine fhW.goto hΓ (off := (-133)) (tgt := 2) (by decide +kernel) ?_
    refine fhW.sub (lv' := [(0, .ref 0), (1, .int v1), (2, .int (v2 + (1 : Int32)))]) [1, 2, 0] rfl ?_
    have e9 := Option.some.inj h
    subst e9
    exact hk
  · rw [if_neg hc] at h
    obtain ⟨hg2, h⟩ := fhif h
    refine fhW.blk fhPM fhLL hΓ [(.aload_n 0, 0), (.getfield 124, 0), (.iload_n 3, 0), (.baload, 0)] (pc' := 52) (lv' := [(0, .ref 0), (1, .int v1), (2, .int v2), (3, .int v3)]) (st' := [.int (σ.1 37 (fhix v3))]) (σ' := σ) (by decide +kernel) rfl rfl hg2 ?_
    refine fhW.z_ne hΓ (tgt := 58) (show fhbk _ _ (.ifCond .ne (6)) _ = true by decide +kernel) (fun hc => ?_) (fun hc => ?_)
    · rw [if_neg hc] at h
      obtain ⟨hg3, h⟩ := fhif h
      refine fhW.blk fhPM fhLL hΓ [(.bipush 32, 32), (.aload_n 0, 0), (.getfield 137, 0), (.sipush 1024, 1024), (.iload_n 2, 0), (.imul, 0), (.iload_n 3, 0), (.iadd, 0), (.iaload, 0), (.imul, 0), (.aload_n 0, 0), (.getfield 134, 0), (.sipush 1024, 1024), (.iload_n 1, 0), (.imul, 0), (.iload_n 3, 0), (.iadd, 0), (.iaload, 0), (.iadd, 0), (.istore 4, 0)] (pc' := 88) (lv' := [(4, .int (((32 : Int32) * (σ.1 41 (fhix (((1024 : Int32) * v2) + v3)))) + (σ.1 40 (fhix (((1024 : Int32) * v1) + v3))))), (0, .ref 0), (1, .int v1), (2, .int v2), (3, .int v3)]) (st' := []) (σ' := σ) (by decide +kernel) rfl rfl hg3 ?_
      obtain ⟨w4_1, e1, h⟩ := fhlet_elim h
      rw [← e1]
      obtain ⟨hg4, h⟩ := fhif h
      refine fhW.blk fhPM fhLL hΓ [(.aload_n 0, 0), (.getfield 144, 0), (.iload 4, 0), (.iaload, 0), (.iconst (-1), -1)] (pc' := 96) (lv' := [(4, .int w4_1), (0, .ref 0), (1, .int v1), (2, .int v2), (3, .int v3)]) (st' := [.int (-1 : Int32), .int (σ.1 43 (fhix w4_1))]) (σ' := σ) (by decide +kernel) rfl rfl hg4 ?_
      refine fhW.i_ne hΓ (tgt := 107) (show fhbk _ _ (.if_icmp .ne (11)) _ = true by decide +kernel) (fun hc => ?_) (fun hc => ?_)
      · rw [if_neg hc] at h
        refine fhW.sub (lv' := [(0, .ref 0), (1, .int v1), (2, .int v2), (3, .int v3), (4, .int w4_1)]) [1, 2, 3, 4, 0] rfl ?_
        exact L_X12_splitsGroups_107 hΓ hd v1 v2 v3 w4_1 σ _ h hk
      · rw [if_pos hc] at h
        obtain ⟨hg5, h⟩ := fhif h
        refine fhW.blk fhPM fhLL hΓ [(.aload_n 0, 0), (.getfield 144, 0), (.iload 4, 0), (.iload_n 3, 0), (.iastore, 0)] (pc' := 107) (lv' := [(4, .int w4_1), (0, .ref 0), (1, .int v1), (2, .int v2), (3, .int v3)]) (st' := []) (σ' := (fhI σ 43 (fhix w4_1) v3)) (by decide +kernel) rfl rfl hg5 ?_
        refine fhW.sub (lv' := [(0, .ref 0), (1, .int v1), (2, .int v2), (3, .int v3), (4, .int w4_1)]) [1, 2, 3, 4, 0] rfl ?_
        exact L_X12_splitsGroups_107 hΓ hd v1 v2 v3 w4_1 (fhI σ 43 (fhix w4_1) v3) _ h hk
    · rw [if_pos hc] at h
      refine fhW.goto hΓ (off := 71) (tgt := 126) (by decide +kernel) ?_
      refine fhW.sub (lv' := [(0, .ref 0), (1, .int v1), (2, .int v2), (3, .int v3)]) [0, 1, 2, 3] rfl ?_
      exact L_X12_splitsGroups_126 hΓ hd v1 v2 v3 σ _ h hk
set_option maxRecDepth 100000 in
set_option maxHeartbeats 4000000 in
theorem L_X12_splitsGroups_12 {Γ : fhX} (hΓ : fhOk fhYM 12 cX12_splitsGroups 5 none Γ) (hd : 1 ≤ fhD Γ) (v1 : Int32) (v2 : Int32) (v3 : Int32)  (σ : fhM) (o : (Int32 × fhM) ⊕ ((Int32 × fhM) ⊕ (fhM))) (h : f_X12_splitsGroups_12 v1 v2 v3 σ = some o) (hk : (fhK (fun x => fhW fhYM Γ 12 [(0, .ref 0), (1, .int v1), (2, .int v2), (3, .int x.1)] [] x.2) (fhK (fun x => fhW fhYM Γ 2 [(0, .ref 0), (1, .int v1), (2, .int x.1)] [] x.2) (fun o => fhRet Γ none o))) o) : fhW fhYM Γ 12 [(0, .ref 0), (1, .int v1), (2, .int v2), (3, .int v3)] [] σ := by
  unfold f_X12_splitsGroups_12 at h
  refine fhW.blk fhPM fhLL hΓ [(.iload_n 3, 0), (.bipush 32, 32), (.aload_n 0, 0), (.getfield 432, 0), (.imul, 0)] (pc' := 20) (lv' := [(0, .ref 0), (1, .int v1), (2, .int v2), (3, .int v3)]) (st' := [.int ((32 : Int32) * (σ.1 0 52)), .int v3]) (σ' := σ) (by decide +kernel) rfl rfl rfl ?_
  refine fhW.i_ge hΓ (tgt := 36) (show fhbk _ _ (.if_icmp .ge (16)) _ = true by decide +kernel) (fun hc => ?_) (fun hc => ?_)
  · rw [if_pos hc] at h
    refine fhW.blk fhPM fhLL hΓ [(.iconst 0, 0), (.istore_n 3, 0)] (pc' := 38) (lv' := [(3, .int (0 : Int32)), (0, .ref 0), (1, .int v1), (2, .int v2)]) (st' := []) (σ' := σ) (by decide +kernel) rfl rfl rfl ?_
    refine fhW.sub (lv' := [(0, .ref 0), (1, .int v1), (2, .int v2), (3, .int (0 : Int32))]) [1, 2, 3, 0] rfl ?_
    obtain ⟨z1, hz, e2⟩ := Option.map_eq_some_iff.mp h
    clear h
    subst e2
    have h := hz
    have hk : (fhK (fun x => fhW fhYM Γ 2 [(0, .ref 0), (1, .int v1), (2, .int x.1)] [] x.2) (fun o => fhRet Γ none o)) z1 := hk
    exact fhlp_ok (W := (fun x => fhW fhYM Γ 38 [(0, .ref 0), (1, .int v1), (2, .int v2), (3, .int x.1)] [] x.2)) (B := (fhK (fun x => fhW fhYM Γ 2 [(0, .ref 0), (1, .int v1), (2, .int x.1)] [] x.2) (fun o => fhRet Γ none o))) (fun x o h hk => L_X12_splitsGroups_38 hΓ hd v1 v2 x.1 x.2 o h hk) ((0 : Int32), σ) _ h hk
  · rw [if_neg hc] at h
    obtain ⟨hg6, h⟩ := fhif h
    refine fhW.blk fhPM fhLL hΓ [(.aload_n 0, 0), (.getfield 144, 0), (.iload_n 3, 0), (.iconst (-1), -1), (.iastore, 0), (.iinc 3 1, 1)] (pc' := 33) (lv' := [(3, .int (v3 + (1 : Int32))), (0, .ref 0), (1, .int v1), (2, .int v2)]) (st' := []) (σ' := (fhI σ 43 (fhix v3) (-1 : Int32))) (by decide +kernel) rfl rfl hg6 ?_
    refine fhW.goto hΓ (off := (-21)) (tgt := 12) (by decide +kernel) ?_
    refine fhW.sub (lv' := [(0, .ref 0), (1, .int v1), (2, .int v2), (3, .int (v3 + (1 : Int32)))]) [1, 2, 3, 0] rfl ?_
    have e9 := Option.some.inj h
    subst e9
    exact hk
set_option maxRecDepth 100000 in
set_option maxHeartbeats 4000000 in
theorem L_X12_splitsGroups_2 {Γ : fhX} (hΓ : fhOk fhYM 12 cX12_splitsGroups 5 none Γ) (hd : 1 ≤ fhD Γ) (v1 : Int32) (v2 : Int32)  (σ : fhM) (o : (Int32 × fhM) ⊕ (fhM)) (h : f_X12_splitsGroups_2 v1 v2 σ = some o) (hk : (fhK (fun x => fhW fhYM Γ 2 [(0, .ref 0), (1, .int v1), (2, .int x.1)] [] x.2) (fun o => fhRet Γ none o)) o) : fhW fhYM Γ 2 [(0, .ref 0), (1, .int v1), (2, .int v2)] [] σ := by
  unfold f_X12_splitsGroups_2 at h
  refine fhW.blk fhPM fhLL hΓ [(.iload_n 2, 0), (.aload_n 0, 0)] (pc' := 4) (lv' := [(0, .ref 0), (1, .int v1), (2, .int v2)]) (st' := [.ref 0, .int v2]) (σ' := σ) (by decide +kernel) rfl rfl rfl ?_
  refine fhW.callv hΓ mvX12_guestMany ml_12_423 (t := 0) (ci := 12) (av := []) (rest := [.int v2]) (r := (some (.int (f_X12_guestMany σ)))) (σ' := σ) (T_X12_guestMany (E := fhEn Γ) (d := fhD Γ - 1) (by omega) σ) (by omega) (by decide +kernel) rfl rfl rfl (Nat.le_of_ble_eq_true rfl) rfl ?_
  show fhW fhYM Γ 7 [(0, .ref 0), (1, .int v1), (2, .int v2)] [.int (f_X12_guestMany σ), .int v2] σ
  refine fhW.i_ge hΓ (tgt := 138) (show fhbk _ _ (.if_icmp .ge (131)) _ = true by decide +kernel) (fun hc => ?_) (fun hc => ?_)
  · rw [if_pos hc] at h
    have e9 := Option.some.inj h
    subst e9
    exact fhW.vret hΓ (by decide +kernel) hk
  · rw [if_neg hc] at h
    refine fhW.blk fhPM fhLL hΓ [(.iconst 0, 0), (.istore_n 3, 0)] (pc' := 12) (lv' := [(3, .int (0 : Int32)), (0, .ref 0), (1, .int v1), (2, .int v2)]) (st' := []) (σ' := σ) (by decide +kernel) rfl rfl rfl ?_
    refine fhW.sub (lv' := [(0, .ref 0), (1, .int v1), (2, .int v2), (3, .int (0 : Int32))]) [1, 2, 3, 0] rfl ?_
    exact fhlp_ok (W := (fun x => fhW fhYM Γ 12 [(0, .ref 0), (1, .int v1), (2, .int v2), (3, .int x.1)] [] x.2)) (B := (fhK (fun x => fhW fhYM Γ 2 [(0, .ref 0), (1, .int v1), (2, .int x.1)] [] x.2) (fun o => fhRet Γ none o))) (fun x o h hk => L_X12_splitsGroups_12 hΓ hd v1 v2 x.1 x.2 o h hk) ((0 : Int32), σ) _ h hk
set_option maxRecDepth 100000 in
set_option maxHeartbeats 4000000 in
theorem L_X12_splitsGroups_E {Γ : fhX} (hΓ : fhOk fhYM 12 cX12_splitsGroups 5 none Γ) (hd : 1 ≤ fhD Γ) (v1 : Int32)  (σ : fhM) (o : fhM) (h : f_X12_splitsGroups v1 σ = some o) (hk : (fun o => fhRet Γ none o) o) : fhW fhYM Γ 0 [(0, .ref 0), (1, .int v1)] [] σ := by
  unfold f_X12_splitsGroups at h
  refine fhW.blk fhPM fhLL hΓ [(.iconst 0, 0), (.istore_n 2, 0)] (pc' := 2) (lv' := [(2, .int (0 : Int32)), (0, .ref 0), (1, .int v1)]) (st' := []) (σ' := σ) (by decide +kernel) rfl rfl rfl ?_
  refine fhW.sub (lv' := [(0, .ref 0), (1, .int v1), (2, .int (0 : Int32))]) [1, 2, 0] rfl ?_
  exact fhlp_ok (W := (fun x => fhW fhYM Γ 2 [(0, .ref 0), (1, .int v1), (2, .int x.1)] [] x.2)) (B := (fun o => fhRet Γ none o)) (fun x o h hk => L_X12_splitsGroups_2 hΓ hd v1 x.1 x.2 o h hk) ((0 : Int32), σ) _ h hk
set_option maxRecDepth 100000 in
theorem T_X12_splitsGroups {E : fhE} {d : Nat} (hd : 1 ≤ d) (v1 : Int32)  (σ : fhM) {o : fhM} (h : f_X12_splitsGroups v1 σ = some o) : fhC fhYM E d miX12_splitsGroups [.ref 0, .int v1] σ none o := by
  refine fhC.of (y := yX12_splitsGroups) (cc := cX12_splitsGroups) (nL := 5) (ret := none) 12 rfl (by decide +kernel) (Nat.le_of_ble_eq_true rfl) ?_
  intro Γ hΓ hR hD hEn
  subst hD; subst hEn
  exact L_X12_splitsGroups_E hΓ hd v1  σ _ h hR
set_option maxRecDepth 100000 in
set_option maxHeartbeats 4000000 in
theorem L_X12_laysAnew_28 {Γ : fhX} (hΓ : fhOk fhYM 12 cX12_laysAnew 2 none Γ) (hd : 3 ≤ fhD Γ) (v1 : Int32)  (σ : fhM) (o : (Int32 × fhM) ⊕ (fhM)) (h : f_X12_laysAnew_28 v1 σ = some o) (hk : (fhK (fun x => fhW fhYM Γ 6 [(0, .ref 0), (1, .int x.1)] [] x.2) (fun o => fhRet Γ none o)) o) : fhW fhYM Γ 28 [(0, .ref 0), (1, .int v1)] [] σ := by
  unfold f_X12_laysAnew_28 at h
  refine fhW.blk fhPM fhLL hΓ [(.iinc 1 1, 1)] (pc' := 31) (lv' := [(1, .int (v1 + (1 : Int32))), (0, .ref 0)]) (st' := []) (σ' := σ) (by decide +kernel) rfl rfl rfl ?_
  refine fhW.goto hΓ (off := (-25)) (tgt := 6) (by decide +kernel) ?_
  refine fhW.sub (lv' := [(0, .ref 0), (1, .int (v1 + (1 : Int32)))]) [1, 0] rfl ?_
  have e9 := Option.some.inj h
  subst e9
  exact hk
set_option maxRecDepth 100000 in
set_option maxHeartbeats 4000000 in
theorem L_X12_laysAnew_6 {Γ : fhX} (hΓ : fhOk fhYM 12 cX12_laysAnew 2 none Γ) (hd : 3 ≤ fhD Γ) (v1 : Int32)  (σ : fhM) (o : (Int32 × fhM) ⊕ (fhM)) (h : f_X12_laysAnew_6 v1 σ = some o) (hk : (fhK (fun x => fhW fhYM Γ 6 [(0, .ref 0), (1, .int x.1)] [] x.2) (fun o => fhRet Γ none o)) o) : fhW fhYM Γ 6 [(0, .ref 0), (1, .int v1)] [] σ := by
  unfold f_X12_laysAnew_6 at h
  refine fhW.blk fhPM fhLL hΓ [(.iload_n 1, 0), (.bipush 20, 20)] (pc' := 9) (lv' := [(0, .ref 0), (1, .int v1)]) (st' := [.int (20 : Int32), .int v1]) (σ' := σ) (by decide +kernel) rfl rfl rfl ?_
  refine fhW.i_gt hΓ (tgt := 34) (show fhbk _ _ (.if_icmp .gt (25)) _ = true by decide +kernel) (fun hc => ?_) (fun hc => ?_)
  · rw [if_pos hc] at h
    have e9 := Option.some.inj h
    subst e9
    exact fhW.vret hΓ (by decide +kernel) hk
  · rw [if_neg hc] at h
    refine fhW.blk fhPM fhLL hΓ [(.aload_n 0, 0), (.iload_n 1, 0)] (pc' := 14) (lv' := [(0, .ref 0), (1, .int v1)]) (st' := [.int v1, .ref 0]) (σ' := σ) (by decide +kernel) rfl rfl rfl ?_
    obtain ⟨q2, hb1, h⟩ := Option.bind_eq_some_iff.mp h
    refine fhW.callv hΓ mvX12_laysRound ml_12_466 (t := 0) (ci := 12) (av := [.int v1]) (rest := []) (r := none) (σ' := q2) (T_X12_laysRound (E := fhEn Γ) (d := fhD Γ - 1) (by omega) v1 σ hb1) (by omega) (by decide +kernel) rfl rfl rfl (Nat.le_of_ble_eq_true rfl) rfl ?_
    show fhW fhYM Γ 17 [(0, .ref 0), (1, .int v1)] [] q2
    refine fhW.blk fhPM fhLL hΓ [(.iload_n 1, 0), (.bipush 20, 20)] (pc' := 20) (lv' := [(0, .ref 0), (1, .int v1)]) (st' := [.int (20 : Int32), .int v1]) (σ' := q2) (by decide +kernel) rfl rfl rfl ?_
    refine fhW.i_ge hΓ (tgt := 28) (show fhbk _ _ (.if_icmp .ge (8)) _ = true by decide +kernel) (fun hc => ?_) (fun hc => ?_)
    · rw [if_pos hc] at h
      refine fhW.sub (lv' := [(0, .ref 0), (1, .int v1)]) [0, 1] rfl ?_
      exact L_X12_laysAnew_28 hΓ hd v1 q2 _ h hk
    · rw [if_neg hc] at h
      refine fhW.blk fhPM fhLL hΓ [(.aload_n 0, 0), (.iload_n 1, 0)] (pc' := 25) (lv' := [(0, .ref 0), (1, .int v1)]) (st' := [.int v1, .ref 0]) (σ' := q2) (by decide +kernel) rfl rfl rfl ?_
      obtain ⟨q3, hb2, h⟩ := Option.bind_eq_some_iff.mp h
      refine fhW.callv hΓ mvX12_splitsGroups ml_12_469 (t := 0) (ci := 12) (av := [.int v1]) (rest := []) (r := none) (σ' := q3) (T_X12_splitsGroups (E := fhEn Γ) (d := fhD Γ - 1) (by omega) v1 q2 hb2) (by omega) (by decide +kernel) rfl rfl rfl (Nat.le_of_ble_eq_true rfl) rfl ?_
      show fhW fhYM Γ 28 [(0, .ref 0), (1, .int v1)] [] q3
      refine fhW.sub (lv' := [(0, .ref 0), (1, .int v1)]) [0, 1] rfl ?_
      exact L_X12_laysAnew_28 hΓ hd v1 q3 _ h hk
set_option maxRecDepth 100000 in
set_option maxHeartbeats 4000000 in
theorem L_X12_laysAnew_E {Γ : fhX} (hΓ : fhOk fhYM 12 cX12_laysAnew 2 none Γ) (hd : 3 ≤ fhD Γ)   (σ : fhM) (o : fhM) (h : f_X12_laysAnew σ = some o) (hk : (fun o => fhRet Γ none o) o) : fhW fhYM Γ 0 [(0, .ref 0)] [] σ := by
  unfold f_X12_laysAnew at h
  refine fhW.blk fhPM fhLL hΓ [(.aload_n 0, 0)] (pc' := 1) (lv' := [(0, .ref 0)]) (st' := [.ref 0]) (σ' := σ) (by decide +kernel) rfl rfl rfl ?_
  obtain ⟨q1, hb3, h⟩ := Option.bind_eq_some_iff.mp h
  refine fhW.callv hΓ mvX12_laysGroups ml_12_463 (t := 0) (ci := 12) (av := []) (rest := []) (r := none) (σ' := q1) (T_X12_laysGroups (E := fhEn Γ) (d := fhD Γ - 1) (by omega) σ hb3) (by omega) (by decide +kernel) rfl rfl rfl (Nat.le_of_ble_eq_true rfl) rfl ?_
  show fhW fhYM Γ 4 [(0, .ref 0)] [] q1
  refine fhW.blk fhPM fhLL hΓ [(.iconst 0, 0), (.istore_n 1, 0)] (pc' := 6) (lv' := [(1, .int (0 : Int32)), (0, .ref 0)]) (st' := []) (σ' := q1) (by decide +kernel) rfl rfl rfl ?_
  refine fhW.sub (lv' := [(0, .ref 0), (1, .int (0 : Int32))]) [1, 0] rfl ?_
  exact fhlp_ok (W := (fun x => fhW fhYM Γ 6 [(0, .ref 0), (1, .int x.1)] [] x.2)) (B := (fun o => fhRet Γ none o)) (fun x o h hk => L_X12_laysAnew_6 hΓ hd x.1 x.2 o h hk) ((0 : Int32), q1) _ h hk
set_option maxRecDepth 100000 in
theorem T_X12_laysAnew {E : fhE} {d : Nat} (hd : 3 ≤ d)   (σ : fhM) {o : fhM} (h : f_X12_laysAnew σ = some o) : fhC fhYM E d miX12_laysAnew [.ref 0] σ none o := by
  refine fhC.of (y := yX12_laysAnew) (cc := cX12_laysAnew) (nL := 2) (ret := none) 12 rfl (by decide +kernel) (Nat.le_of_ble_eq_true rfl) ?_
  intro Γ hΓ hR hD hEn
  subst hD; subst hEn
  exact L_X12_laysAnew_E hΓ hd   σ _ h hR
set_option maxRecDepth 100000 in
set_option maxHeartbeats 4000000 in
theorem L_X12_begins_45 {Γ : fhX} (hΓ : fhOk fhYM 12 cX12_begins 2 none Γ) (hd : 0 ≤ fhD Γ) (v1 : Int32) (s0 : Int32) (s1 : Int32)  (σ : fhM) (o : (Int32 × fhM) ⊕ (fhM)) (h : f_X12_begins_45 v1 s0 s1 σ = some o) (hk : (fhK (fun x => fhW fhYM Γ 9 [(0, .ref 0), (1, .int x.1)] [] x.2) (fun o => fhRet Γ none o)) o) : fhW fhYM Γ 45 [(0, .ref 0), (1, .int v1)] [.int s0, .int s1, .ref 44] σ := by
  unfold f_X12_begins_45 at h
  obtain ⟨hg1, h⟩ := fhif h
  refine fhW.blk fhPM fhLL hΓ [(.iastore, 0), (.iinc 1 1, 1)] (pc' := 49) (lv' := [(1, .int (v1 + (1 : Int32))), (0, .ref 0)]) (st' := []) (σ' := (fhI σ 44 (fhix s1) s0)) (by decide +kernel) rfl rfl hg1 ?_
  refine fhW.goto hΓ (off := (-40)) (tgt := 9) (by decide +kernel) ?_
  refine fhW.sub (lv' := [(0, .ref 0), (1, .int (v1 + (1 : Int32)))]) [1, 0] rfl ?_
  have e9 := Option.some.inj h
  subst e9
  exact hk
set_option maxRecDepth 100000 in
set_option maxHeartbeats 4000000 in
theorem L_X12_begins_44 {Γ : fhX} (hΓ : fhOk fhYM 12 cX12_begins 2 none Γ) (hd : 0 ≤ fhD Γ) (v1 : Int32) (s0 : Int32)  (σ : fhM) (o : (Int32 × fhM) ⊕ (fhM)) (h : f_X12_begins_44 v1 s0 σ = some o) (hk : (fhK (fun x => fhW fhYM Γ 9 [(0, .ref 0), (1, .int x.1)] [] x.2) (fun o => fhRet Γ none o)) o) : fhW fhYM Γ 44 [(0, .ref 0), (1, .int v1)] [.int s0, .ref 44] σ := by
  unfold f_X12_begins_44 at h
  refine fhW.blk fhPM fhLL hΓ [(.iconst 0, 0)] (pc' := 45) (lv' := [(0, .ref 0), (1, .int v1)]) (st' := [.int (0 : Int32), .int s0, .ref 44]) (σ' := σ) (by decide +kernel) rfl rfl rfl ?_
  refine fhW.sub (lv' := [(0, .ref 0), (1, .int v1)]) [0, 1] rfl ?_
  exact L_X12_begins_45 hΓ hd v1 (0 : Int32) s0 σ _ h hk
set_option maxRecDepth 100000 in
set_option maxHeartbeats 4000000 in
theorem L_X12_begins_9 {Γ : fhX} (hΓ : fhOk fhYM 12 cX12_begins 2 none Γ) (hd : 0 ≤ fhD Γ) (v1 : Int32)  (σ : fhM) (o : (Int32 × fhM) ⊕ (fhM)) (h : f_X12_begins_9 v1 σ = some o) (hk : (fhK (fun x => fhW fhYM Γ 9 [(0, .ref 0), (1, .int x.1)] [] x.2) (fun o => fhRet Γ none o)) o) : fhW fhYM Γ 9 [(0, .ref 0), (1, .int v1)] [] σ := by
  unfold f_X12_begins_9 at h
  refine fhW.blk fhPM fhLL hΓ [(.iload_n 1, 0), (.sipush 1024, 1024)] (pc' := 13) (lv' := [(0, .ref 0), (1, .int v1)]) (st' := [.int (1024 : Int32), .int v1]) (σ' := σ) (by decide +kernel) rfl rfl rfl ?_
  refine fhW.i_ge hΓ (tgt := 52) (show fhbk _ _ (.if_icmp .ge (39)) _ = true by decide +kernel) (fun hc => ?_) (fun hc => ?_)
  · rw [if_pos hc] at h
    have e9 := Option.some.inj h
    subst e9
    exact fhW.vret hΓ (by decide +kernel) hk
  · rw [if_neg hc] at h
    refine fhW.blk fhPM fhLL hΓ [(.aload_n 0, 0), (.getfield 147, 0), (.iconst 2, 2), (.iload_n 1, 0), (.iadd, 0), (.iload_n 1, 0), (.aload_n 0, 0), (.getfield 432, 0)] (pc' := 28) (lv' := [(0, .ref 0), (1, .int v1)]) (st' := [.int (σ.1 0 52), .int v1, .int ((2 : Int32) + v1), .ref 44]) (σ' := σ) (by decide +kernel) rfl rfl rfl ?_
    refine fhW.i_ge hΓ (tgt := 44) (show fhbk _ _ (.if_icmp .ge (16)) _ = true by decide +kernel) (fun hc => ?_) (fun hc => ?_)
    · rw [if_pos hc] at h
      refine fhW.sub (lv' := [(0, .ref 0), (1, .int v1)]) [0, 1] rfl ?_
      exact L_X12_begins_44 hΓ hd v1 ((2 : Int32) + v1) σ _ h hk
    · rw [if_neg hc] at h
      obtain ⟨hg2, h⟩ := fhif h
      refine fhW.blk fhPM fhLL hΓ [(.aload_n 0, 0), (.getfield 124, 0), (.iload_n 1, 0), (.baload, 0)] (pc' := 37) (lv' := [(0, .ref 0), (1, .int v1)]) (st' := [.int (σ.1 37 (fhix v1)), .int ((2 : Int32) + v1), .ref 44]) (σ' := σ) (by decide +kernel) rfl rfl hg2 ?_
      refine fhW.z_eq hΓ (tgt := 44) (show fhbk _ _ (.ifCond .eq (7)) _ = true by decide +kernel) (fun hc => ?_) (fun hc => ?_)
      · rw [if_pos hc] at h
        refine fhW.sub (lv' := [(0, .ref 0), (1, .int v1)]) [0, 1] rfl ?_
        exact L_X12_begins_44 hΓ hd v1 ((2 : Int32) + v1) σ _ h hk
      · rw [if_neg hc] at h
        refine fhW.blk fhPM fhLL hΓ [(.iconst 1, 1)] (pc' := 41) (lv' := [(0, .ref 0), (1, .int v1)]) (st' := [.int (1 : Int32), .int ((2 : Int32) + v1), .ref 44]) (σ' := σ) (by decide +kernel) rfl rfl rfl ?_
        refine fhW.goto hΓ (off := 4) (tgt := 45) (by decide +kernel) ?_
        refine fhW.sub (lv' := [(0, .ref 0), (1, .int v1)]) [0, 1] rfl ?_
        exact L_X12_begins_45 hΓ hd v1 (1 : Int32) ((2 : Int32) + v1) σ _ h hk
set_option maxRecDepth 100000 in
set_option maxHeartbeats 4000000 in
theorem L_X12_begins_E {Γ : fhX} (hΓ : fhOk fhYM 12 cX12_begins 2 none Γ) (hd : 0 ≤ fhD Γ)   (σ : fhM) (o : fhM) (h : f_X12_begins σ = some o) (hk : (fun o => fhRet Γ none o) o) : fhW fhYM Γ 0 [(0, .ref 0)] [] σ := by
  unfold f_X12_begins at h
  refine fhW.blk fhPM fhLL hΓ [(.aload_n 0, 0), (.getfield 147, 0), (.iconst 0, 0), (.iconst 0, 0), (.iastore, 0), (.iconst 0, 0), (.istore_n 1, 0)] (pc' := 9) (lv' := [(1, .int (0 : Int32)), (0, .ref 0)]) (st' := []) (σ' := (fhI σ 44 0 (0 : Int32))) (by decide +kernel) rfl rfl rfl ?_
  refine fhW.sub (lv' := [(0, .ref 0), (1, .int (0 : Int32))]) [1, 0] rfl ?_
  exact fhlp_ok (W := (fun x => fhW fhYM Γ 9 [(0, .ref 0), (1, .int x.1)] [] x.2)) (B := (fun o => fhRet Γ none o)) (fun x o h hk => L_X12_begins_9 hΓ hd x.1 x.2 o h hk) ((0 : Int32), (fhI σ 44 0 (0 : Int32))) _ h hk
set_option maxRecDepth 100000 in
theorem T_X12_begins {E : fhE} {d : Nat} (hd : 0 ≤ d)   (σ : fhM) {o : fhM} (h : f_X12_begins σ = some o) : fhC fhYM E d miX12_begins [.ref 0] σ none o := by
  refine fhC.of (y := yX12_begins) (cc := cX12_begins) (nL := 2) (ret := none) 12 rfl (by decide +kernel) (Nat.le_of_ble_eq_true rfl) ?_
  intro Γ hΓ hR hD hEn
  subst hD; subst hEn
  exact L_X12_begins_E hΓ hd   σ _ h hR
set_option maxRecDepth 100000 in
set_option maxHeartbeats 4000000 in
theorem L_X12_stands_128 {Γ : fhX} (hΓ : fhOk fhYM 12 cX12_stands 2 none Γ) (hd : 5 ≤ fhD Γ) (v1 : Int32)  (σ : fhM) (o : (Int32 × fhM) ⊕ (fhM)) (h : f_X12_stands_128 v1 σ = some o) (hk : (fhK (fun x => fhW fhYM Γ 128 [(0, .ref 0), (1, .int x.1)] [] x.2) (fun o => fhRet Γ none o)) o) : fhW fhYM Γ 128 [(0, .ref 0), (1, .int v1)] [] σ := by
  unfold f_X12_stands_128 at h
  refine fhW.blk fhPM fhLL hΓ [(.iload_n 1, 0), (.sipush 1187, 1187)] (pc' := 132) (lv' := [(0, .ref 0), (1, .int v1)]) (st' := [.int (1187 : Int32), .int v1]) (σ' := σ) (by decide +kernel) rfl rfl rfl ?_
  refine fhW.i_ge hΓ (tgt := 148) (show fhbk _ _ (.if_icmp .ge (16)) _ = true by decide +kernel) (fun hc => ?_) (fun hc => ?_)
  · rw [if_pos hc] at h
    refine fhW.blk fhPM fhLL hΓ [(.aload_n 0, 0), (.getfield 147, 0), (.iconst 1, 1), (.aload_n 0, 0)] (pc' := 154) (lv' := [(0, .ref 0), (1, .int v1)]) (st' := [.ref 0, .int (1 : Int32), .ref 44]) (σ' := σ) (by decide +kernel) rfl rfl rfl ?_
    obtain ⟨q3, hb1, h⟩ := Option.bind_eq_some_iff.mp h
    refine fhW.callv hΓ mvX12_wornRow ml_12_394 (t := 0) (ci := 12) (av := []) (rest := [.int (1 : Int32), .ref 44]) (r := (some (.int q3))) (σ' := σ) (T_X12_wornRow (E := fhEn Γ) (d := fhD Γ - 1) (by omega) σ hb1) (by omega) (by decide +kernel) rfl rfl rfl (Nat.le_of_ble_eq_true rfl) rfl ?_
    show fhW fhYM Γ 157 [(0, .ref 0), (1, .int v1)] [.int q3, .int (1 : Int32), .ref 44] σ
    refine fhW.blk fhPM fhLL hΓ [(.iastore, 0), (.aload_n 0, 0)] (pc' := 159) (lv' := [(0, .ref 0), (1, .int v1)]) (st' := [.ref 0]) (σ' := (fhI σ 44 1 q3)) (by decide +kernel) rfl rfl rfl ?_
    obtain ⟨q4, hb2, h⟩ := Option.bind_eq_some_iff.mp h
    refine fhW.callv hΓ mvX12_begins ml_12_451 (t := 0) (ci := 12) (av := []) (rest := []) (r := none) (σ' := q4) (T_X12_begins (E := fhEn Γ) (d := fhD Γ - 1) (by omega) (fhI σ 44 1 q3) hb2) (by omega) (by decide +kernel) rfl rfl rfl (Nat.le_of_ble_eq_true rfl) rfl ?_
    show fhW fhYM Γ 162 [(0, .ref 0), (1, .int v1)] [] q4
    refine fhW.blk fhPM fhLL hΓ [(.aload_n 0, 0), (.iconst 0, 0), (.putfield 454, 0), (.aload_n 0, 0), (.iconst 0, 0), (.putfield 457, 0)] (pc' := 172) (lv' := [(0, .ref 0), (1, .int v1)]) (st' := []) (σ' := (fhI (fhI q4 0 71 (0 : Int32)) 0 68 (0 : Int32))) (by decide +kernel) rfl rfl rfl ?_
    have e9 := Option.some.inj h
    subst e9
    exact fhW.vret hΓ (by decide +kernel) hk
  · rw [if_neg hc] at h
    obtain ⟨hg1, h⟩ := fhif h
    refine fhW.blk fhPM fhLL hΓ [(.aload_n 0, 0), (.getfield 147, 0), (.iload_n 1, 0), (.iconst 0, 0), (.iastore, 0), (.iinc 1 1, 1)] (pc' := 145) (lv' := [(1, .int (v1 + (1 : Int32))), (0, .ref 0)]) (st' := []) (σ' := (fhI σ 44 (fhix v1) (0 : Int32))) (by decide +kernel) rfl rfl hg1 ?_
    refine fhW.goto hΓ (off := (-17)) (tgt := 128) (by decide +kernel) ?_
    refine fhW.sub (lv' := [(0, .ref 0), (1, .int (v1 + (1 : Int32)))]) [1, 0] rfl ?_
    have e9 := Option.some.inj h
    subst e9
    exact hk
set_option maxRecDepth 100000 in
set_option maxHeartbeats 4000000 in
theorem L_X12_stands_91 {Γ : fhX} (hΓ : fhOk fhYM 12 cX12_stands 2 none Γ) (hd : 5 ≤ fhD Γ) (v1 : Int32)  (σ : fhM) (o : (Int32 × fhM) ⊕ (fhM)) (h : f_X12_stands_91 v1 σ = some o) (hk : (fhK (fun x => fhW fhYM Γ 91 [(0, .ref 0), (1, .int x.1)] [] x.2) (fun o => fhRet Γ none o)) o) : fhW fhYM Γ 91 [(0, .ref 0), (1, .int v1)] [] σ := by
  unfold f_X12_stands_91 at h
  refine fhW.blk fhPM fhLL hΓ [(.iload_n 1, 0), (.aload_n 0, 0)] (pc' := 93) (lv' := [(0, .ref 0), (1, .int v1)]) (st' := [.ref 0, .int v1]) (σ' := σ) (by decide +kernel) rfl rfl rfl ?_
  refine fhW.callv hΓ mvX12_guestMany ml_12_423 (t := 0) (ci := 12) (av := []) (rest := [.int v1]) (r := (some (.int (f_X12_guestMany σ)))) (σ' := σ) (T_X12_guestMany (E := fhEn Γ) (d := fhD Γ - 1) (by omega) σ) (by omega) (by decide +kernel) rfl rfl rfl (Nat.le_of_ble_eq_true rfl) rfl ?_
  show fhW fhYM Γ 96 [(0, .ref 0), (1, .int v1)] [.int (f_X12_guestMany σ), .int v1] σ
  refine fhW.i_ge hΓ (tgt := 118) (show fhbk _ _ (.if_icmp .ge (22)) _ = true by decide +kernel) (fun hc => ?_) (fun hc => ?_)
  · rw [if_pos hc] at h
    refine fhW.blk fhPM fhLL hΓ [(.aload_n 0, 0)] (pc' := 119) (lv' := [(0, .ref 0), (1, .int v1)]) (st' := [.ref 0]) (σ' := σ) (by decide +kernel) rfl rfl rfl ?_
    obtain ⟨q1, hb3, h⟩ := Option.bind_eq_some_iff.mp h
    refine fhW.callv hΓ mvX12_laysTests ml_12_445 (t := 0) (ci := 12) (av := []) (rest := []) (r := none) (σ' := q1) (T_X12_laysTests (E := fhEn Γ) (d := fhD Γ - 1) (by omega) σ hb3) (by omega) (by decide +kernel) rfl rfl rfl (Nat.le_of_ble_eq_true rfl) rfl ?_
    show fhW fhYM Γ 122 [(0, .ref 0), (1, .int v1)] [] q1
    refine fhW.blk fhPM fhLL hΓ [(.aload_n 0, 0)] (pc' := 123) (lv' := [(0, .ref 0), (1, .int v1)]) (st' := [.ref 0]) (σ' := q1) (by decide +kernel) rfl rfl rfl ?_
    obtain ⟨q2, hb4, h⟩ := Option.bind_eq_some_iff.mp h
    refine fhW.callv hΓ mvX12_laysAnew ml_12_448 (t := 0) (ci := 12) (av := []) (rest := []) (r := none) (σ' := q2) (T_X12_laysAnew (E := fhEn Γ) (d := fhD Γ - 1) (by omega) q1 hb4) (by omega) (by decide +kernel) rfl rfl rfl (Nat.le_of_ble_eq_true rfl) rfl ?_
    show fhW fhYM Γ 126 [(0, .ref 0), (1, .int v1)] [] q2
    refine fhW.blk fhPM fhLL hΓ [(.iconst 0, 0), (.istore_n 1, 0)] (pc' := 128) (lv' := [(1, .int (0 : Int32)), (0, .ref 0)]) (st' := []) (σ' := q2) (by decide +kernel) rfl rfl rfl ?_
    refine fhW.sub (lv' := [(0, .ref 0), (1, .int (0 : Int32))]) [1, 0] rfl ?_
    obtain ⟨z1, hz, e1⟩ := Option.map_eq_some_iff.mp h
    clear h
    subst e1
    have h := hz
    have hk : (fun o => fhRet Γ none o) z1 := hk
    exact fhlp_ok (W := (fun x => fhW fhYM Γ 128 [(0, .ref 0), (1, .int x.1)] [] x.2)) (B := (fun o => fhRet Γ none o)) (fun x o h hk => L_X12_stands_128 hΓ hd x.1 x.2 o h hk) ((0 : Int32), q2) _ h hk
  · rw [if_neg hc] at h
    refine fhW.blk fhPM fhLL hΓ [(.aload_n 0, 0), (.dup, 0), (.getfield 432, 0), (.aload_n 0, 0)] (pc' := 105) (lv' := [(0, .ref 0), (1, .int v1)]) (st' := [.ref 0, .int (σ.1 0 52), .ref 0]) (σ' := σ) (by decide +kernel) rfl rfl rfl ?_
    refine fhW.callv hΓ mvX12_markMany ml_12_426 (t := 0) (ci := 12) (av := []) (rest := [.int (σ.1 0 52), .ref 0]) (r := (some (.int (f_X12_markMany σ)))) (σ' := σ) (T_X12_markMany (E := fhEn Γ) (d := fhD Γ - 1) (by omega) σ) (by omega) (by decide +kernel) rfl rfl rfl (Nat.le_of_ble_eq_true rfl) rfl ?_
    show fhW fhYM Γ 108 [(0, .ref 0), (1, .int v1)] [.int (f_X12_markMany σ), .int (σ.1 0 52), .ref 0] σ
    refine fhW.blk fhPM fhLL hΓ [(.imul, 0), (.putfield 432, 0), (.iinc 1 1, 1)] (pc' := 115) (lv' := [(1, .int (v1 + (1 : Int32))), (0, .ref 0)]) (st' := []) (σ' := (fhI σ 0 52 ((σ.1 0 52) * (f_X12_markMany σ)))) (by decide +kernel) rfl rfl rfl ?_
    refine fhW.goto hΓ (off := (-24)) (tgt := 91) (by decide +kernel) ?_
    refine fhW.sub (lv' := [(0, .ref 0), (1, .int (v1 + (1 : Int32)))]) [1, 0] rfl ?_
    have e9 := Option.some.inj h
    subst e9
    exact hk
set_option maxRecDepth 100000 in
set_option maxHeartbeats 4000000 in
theorem L_X12_stands_34 {Γ : fhX} (hΓ : fhOk fhYM 12 cX12_stands 2 none Γ) (hd : 5 ≤ fhD Γ) (v1 : Int32)  (σ : fhM) (o : (Int32 × fhM) ⊕ (fhM)) (h : f_X12_stands_34 v1 σ = some o) (hk : (fhK (fun x => fhW fhYM Γ 34 [(0, .ref 0), (1, .int x.1)] [] x.2) (fun o => fhRet Γ none o)) o) : fhW fhYM Γ 34 [(0, .ref 0), (1, .int v1)] [] σ := by
  unfold f_X12_stands_34 at h
  refine fhW.blk fhPM fhLL hΓ [(.iload_n 1, 0), (.iconst 5, 5)] (pc' := 36) (lv' := [(0, .ref 0), (1, .int v1)]) (st' := [.int (5 : Int32), .int v1]) (σ' := σ) (by decide +kernel) rfl rfl rfl ?_
  refine fhW.i_ge hΓ (tgt := 84) (show fhbk _ _ (.if_icmp .ge (48)) _ = true by decide +kernel) (fun hc => ?_) (fun hc => ?_)
  · rw [if_pos hc] at h
    refine fhW.blk fhPM fhLL hΓ [(.aload_n 0, 0), (.iconst 1, 1), (.putfield 432, 0), (.iconst 0, 0), (.istore_n 1, 0)] (pc' := 91) (lv' := [(1, .int (0 : Int32)), (0, .ref 0)]) (st' := []) (σ' := (fhI σ 0 52 (1 : Int32))) (by decide +kernel) rfl rfl rfl ?_
    refine fhW.sub (lv' := [(0, .ref 0), (1, .int (0 : Int32))]) [1, 0] rfl ?_
    obtain ⟨z2, hz, e2⟩ := Option.map_eq_some_iff.mp h
    clear h
    subst e2
    have h := hz
    have hk : (fun o => fhRet Γ none o) z2 := hk
    exact fhlp_ok (W := (fun x => fhW fhYM Γ 91 [(0, .ref 0), (1, .int x.1)] [] x.2)) (B := (fun o => fhRet Γ none o)) (fun x o h hk => L_X12_stands_91 hΓ hd x.1 x.2 o h hk) ((0 : Int32), (fhI σ 0 52 (1 : Int32))) _ h hk
  · rw [if_neg hc] at h
    obtain ⟨hg2, h⟩ := fhif h
    refine fhW.blk fhPM fhLL hΓ [(.aload_n 0, 0), (.getfield 102, 0), (.iconst 5, 5), (.iload_n 1, 0), (.iadd, 0), (.aload_n 0, 0), (.getfield 102, 0), (.iload_n 1, 0), (.laload, 0), (.lastore, 0), (.aload_n 0, 0), (.getfield 109, 0), (.iconst 5, 5), (.iload_n 1, 0), (.iadd, 0), (.aload_n 0, 0), (.getfield 109, 0), (.iload_n 1, 0), (.iaload, 0), (.iconst 1, 1), (.aload_n 0, 0), (.getfield 99, 0), (.iconst 1, 1), (.iaload, 0), (.ishl, 0), (.iconst 1, 1), (.isub, 0), (.iand, 0), (.iastore, 0), (.iinc 1 1, 1)] (pc' := 81) (lv' := [(1, .int (v1 + (1 : Int32))), (0, .ref 0)]) (st' := []) (σ' := (fhI (fhJ σ 30 (fhix ((5 : Int32) + v1)) (σ.2.1 30 (fhix v1))) 32 (fhix ((5 : Int32) + v1)) ((σ.1 32 (fhix v1)) &&& (((1 : Int32) <<< ((σ.1 29 1) &&& 31)) - (1 : Int32))))) (by decide +kernel) rfl rfl hg2 ?_
    refine fhW.goto hΓ (off := (-47)) (tgt := 34) (by decide +kernel) ?_
    refine fhW.sub (lv' := [(0, .ref 0), (1, .int (v1 + (1 : Int32)))]) [1, 0] rfl ?_
    have e9 := Option.some.inj h
    subst e9
    exact hk
set_option maxRecDepth 100000 in
set_option maxHeartbeats 4000000 in
theorem L_X12_stands_7 {Γ : fhX} (hΓ : fhOk fhYM 12 cX12_stands 2 none Γ) (hd : 5 ≤ fhD Γ) (v1 : Int32)  (σ : fhM) (o : (Int32 × fhM) ⊕ (fhM)) (h : f_X12_stands_7 v1 σ = some o) (hk : (fhK (fun x => fhW fhYM Γ 7 [(0, .ref 0), (1, .int x.1)] [] x.2) (fun o => fhRet Γ none o)) o) : fhW fhYM Γ 7 [(0, .ref 0), (1, .int v1)] [] σ := by
  unfold f_X12_stands_7 at h
  refine fhW.blk fhPM fhLL hΓ [(.iload_n 1, 0), (.iconst 5, 5)] (pc' := 9) (lv' := [(0, .ref 0), (1, .int v1)]) (st' := [.int (5 : Int32), .int v1]) (σ' := σ) (by decide +kernel) rfl rfl rfl ?_
  refine fhW.i_ge hΓ (tgt := 32) (show fhbk _ _ (.if_icmp .ge (23)) _ = true by decide +kernel) (fun hc => ?_) (fun hc => ?_)
  · rw [if_pos hc] at h
    refine fhW.blk fhPM fhLL hΓ [(.iconst 0, 0), (.istore_n 1, 0)] (pc' := 34) (lv' := [(1, .int (0 : Int32)), (0, .ref 0)]) (st' := []) (σ' := σ) (by decide +kernel) rfl rfl rfl ?_
    refine fhW.sub (lv' := [(0, .ref 0), (1, .int (0 : Int32))]) [1, 0] rfl ?_
    obtain ⟨z3, hz, e3⟩ := Option.map_eq_some_iff.mp h
    clear h
    subst e3
    have h := hz
    have hk : (fun o => fhRet Γ none o) z3 := hk
    exact fhlp_ok (W := (fun x => fhW fhYM Γ 34 [(0, .ref 0), (1, .int x.1)] [] x.2)) (B := (fun o => fhRet Γ none o)) (fun x o h hk => L_X12_stands_34 hΓ hd x.1 x.2 o h hk) ((0 : Int32), σ) _ h hk
  · rw [if_neg hc] at h
    obtain ⟨hg3, h⟩ := fhif h
    refine fhW.blk fhPM fhLL hΓ [(.aload_n 0, 0), (.getfield 99, 0), (.iconst 5, 5), (.iload_n 1, 0), (.iadd, 0), (.aload_n 0, 0), (.getfield 99, 0), (.iload_n 1, 0), (.iaload, 0), (.iastore, 0), (.iinc 1 1, 1)] (pc' := 29) (lv' := [(1, .int (v1 + (1 : Int32))), (0, .ref 0)]) (st' := []) (σ' := (fhI σ 29 (fhix ((5 : Int32) + v1)) (σ.1 29 (fhix v1)))) (by decide +kernel) rfl rfl hg3 ?_
    refine fhW.goto hΓ (off := (-22)) (tgt := 7) (by decide +kernel) ?_
    refine fhW.sub (lv' := [(0, .ref 0), (1, .int (v1 + (1 : Int32)))]) [1, 0] rfl ?_
    have e9 := Option.some.inj h
    subst e9
    exact hk
set_option maxRecDepth 100000 in
set_option maxHeartbeats 4000000 in
theorem L_X12_stands_E {Γ : fhX} (hΓ : fhOk fhYM 12 cX12_stands 2 none Γ) (hd : 5 ≤ fhD Γ)   (σ : fhM) (o : fhM) (h : f_X12_stands σ = some o) (hk : (fun o => fhRet Γ none o) o) : fhW fhYM Γ 0 [(0, .ref 0)] [] σ := by
  unfold f_X12_stands at h
  refine fhW.blk fhPM fhLL hΓ [(.aload_n 0, 0), (.iconst 1, 1), (.putfield 441, 0), (.iconst 0, 0), (.istore_n 1, 0)] (pc' := 7) (lv' := [(1, .int (0 : Int32)), (0, .ref 0)]) (st' := []) (σ' := (fhI σ 0 47 (1 : Int32))) (by decide +kernel) rfl rfl rfl ?_
  refine fhW.sub (lv' := [(0, .ref 0), (1, .int (0 : Int32))]) [1, 0] rfl ?_
  exact fhlp_ok (W := (fun x => fhW fhYM Γ 7 [(0, .ref 0), (1, .int x.1)] [] x.2)) (B := (fun o => fhRet Γ none o)) (fun x o h hk => L_X12_stands_7 hΓ hd x.1 x.2 o h hk) ((0 : Int32), (fhI σ 0 47 (1 : Int32))) _ h hk
set_option maxRecDepth 100000 in
theorem T_X12_stands {E : fhE} {d : Nat} (hd : 5 ≤ d)   (σ : fhM) {o : fhM} (h : f_X12_stands σ = some o) : fhC fhYM E d miX12_stands [.ref 0] σ none o := by
  refine fhC.of (y := yX12_stands) (cc := cX12_stands) (nL := 2) (ret := none) 12 rfl (by decide +kernel) (Nat.le_of_ble_eq_true rfl) ?_
  intro Γ hΓ hR hD hEn
  subst hD; subst hEn
  exact L_X12_stands_E hΓ hd   σ _ h hR
set_option maxRecDepth 100000 in
set_option maxHeartbeats 4000000 in
theorem L_X12_parlour_127 {Γ : fhX} (hΓ : fhOk fhYM 12 cX12_parlour 2 (some .int) Γ) (hd : 11 ≤ fhD Γ)   (σ : fhM) (o : Int32 × fhM) (h : f_X12_parlour_127 σ = some o) (hk : (fun o => fhRet Γ (some (.int o.1)) o.2) o) : fhW fhYM Γ 127 [(0, .ref 0)] [] σ := by
  unfold f_X12_parlour_127 at h
  refine fhW.blk fhPM fhLL hΓ [(.aload_n 0, 0), (.aload_n 0, 0), (.getfield 262, 0), (.putfield 413, 0), (.aload_n 0, 0), (.aload_n 0, 0), (.getfield 265, 0), (.putfield 13, 0), (.aload_n 0, 0), (.getfield 262, 0)] (pc' := 147) (lv' := [(0, .ref 0)]) (st' := [.int (σ.1 0 5)]) (σ' := (fhI (fhI σ 0 7 (σ.1 0 5)) 0 8 (σ.1 0 6))) (by decide +kernel) rfl rfl rfl ?_
  refine fhW.z_eq hΓ (tgt := 156) (show fhbk _ _ (.ifCond .eq (9)) _ = true by decide +kernel) (fun hc => ?_) (fun hc => ?_)
  · rw [if_pos hc] at h
    refine fhW.blk fhPM fhLL hΓ [(.aload_n 0, 0)] (pc' := 157) (lv' := [(0, .ref 0)]) (st' := [.ref 0]) (σ' := (fhI (fhI σ 0 7 (σ.1 0 5)) 0 8 (σ.1 0 6))) (by decide +kernel) rfl rfl rfl ?_
    obtain ⟨q5, hb1, h⟩ := Option.bind_eq_some_iff.mp h
    refine fhW.callv hΓ mvX12_stands ml_12_420 (t := 0) (ci := 12) (av := []) (rest := []) (r := none) (σ' := q5) (T_X12_stands (E := fhEn Γ) (d := fhD Γ - 1) (by omega) (fhI (fhI σ 0 7 (σ.1 0 5)) 0 8 (σ.1 0 6)) hb1) (by omega) (by decide +kernel) rfl rfl rfl (Nat.le_of_ble_eq_true rfl) rfl ?_
    show fhW fhYM Γ 160 [(0, .ref 0)] [] q5
    refine fhW.blk fhPM fhLL hΓ [(.aload_n 0, 0), (.getfield 368, 0)] (pc' := 164) (lv' := [(0, .ref 0)]) (st' := [.int (q5.1 0 46)]) (σ' := q5) (by decide +kernel) rfl rfl rfl ?_
    have e9 := Option.some.inj h
    subst e9
    exact fhW.iret hΓ (by decide +kernel) hk
  · rw [if_neg hc] at h
    refine fhW.blk fhPM fhLL hΓ [(.aload_n 0, 0), (.iconst 1, 1)] (pc' := 152) (lv' := [(0, .ref 0)]) (st' := [.int (1 : Int32), .ref 0]) (σ' := (fhI (fhI σ 0 7 (σ.1 0 5)) 0 8 (σ.1 0 6))) (by decide +kernel) rfl rfl rfl ?_
    obtain ⟨q6, hb2, h⟩ := Option.bind_eq_some_iff.mp h
    refine fhW.callv hΓ mvX12_refuses ml_12_416 (t := 0) (ci := 12) (av := [.int (1 : Int32)]) (rest := []) (r := (some (.int q6.1))) (σ' := q6.2) (T_X12_refuses (E := fhEn Γ) (d := fhD Γ - 1) (by omega) (1 : Int32) (fhI (fhI σ 0 7 (σ.1 0 5)) 0 8 (σ.1 0 6)) hb2) (by omega) (by decide +kernel) rfl rfl rfl (Nat.le_of_ble_eq_true rfl) rfl ?_
    show fhW fhYM Γ 155 [(0, .ref 0)] [.int q6.1] q6.2
    have e9 := Option.some.inj h
    subst e9
    exact fhW.iret hΓ (by decide +kernel) hk
set_option maxRecDepth 100000 in
set_option maxHeartbeats 4000000 in
theorem L_X12_parlour_116 {Γ : fhX} (hΓ : fhOk fhYM 12 cX12_parlour 2 (some .int) Γ) (hd : 11 ≤ fhD Γ)   (σ : fhM) (o : Int32 × fhM) (h : f_X12_parlour_116 σ = some o) (hk : (fun o => fhRet Γ (some (.int o.1)) o.2) o) : fhW fhYM Γ 116 [(0, .ref 0)] [] σ := by
  unfold f_X12_parlour_116 at h
  refine fhW.blk fhPM fhLL hΓ [(.aload_n 0, 0), (.getfield 262, 0)] (pc' := 120) (lv' := [(0, .ref 0)]) (st' := [.int (σ.1 0 5)]) (σ' := σ) (by decide +kernel) rfl rfl rfl ?_
  refine fhW.z_ne hΓ (tgt := 127) (show fhbk _ _ (.ifCond .ne (7)) _ = true by decide +kernel) (fun hc => ?_) (fun hc => ?_)
  · rw [if_neg hc] at h
    refine fhW.sub (lv' := [(0, .ref 0)]) [0] rfl ?_
    exact L_X12_parlour_127 hΓ hd σ _ h hk
  · rw [if_pos hc] at h
    refine fhW.blk fhPM fhLL hΓ [(.aload_n 0, 0)] (pc' := 124) (lv' := [(0, .ref 0)]) (st' := [.ref 0]) (σ' := σ) (by decide +kernel) rfl rfl rfl ?_
    obtain ⟨q4, hb3, h⟩ := Option.bind_eq_some_iff.mp h
    refine fhW.callv hΓ mvX12_rulesHold ml_12_410 (t := 0) (ci := 12) (av := []) (rest := []) (r := none) (σ' := q4) (T_X12_rulesHold (E := fhEn Γ) (d := fhD Γ - 1) (by omega) σ hb3) (by omega) (by decide +kernel) rfl rfl rfl (Nat.le_of_ble_eq_true rfl) rfl ?_
    show fhW fhYM Γ 127 [(0, .ref 0)] [] q4
    refine fhW.sub (lv' := [(0, .ref 0)]) [0] rfl ?_
    exact L_X12_parlour_127 hΓ hd q4 _ h hk
set_option maxRecDepth 100000 in
set_option maxHeartbeats 4000000 in
theorem L_X12_parlour_94 {Γ : fhX} (hΓ : fhOk fhYM 12 cX12_parlour 2 (some .int) Γ) (hd : 11 ≤ fhD Γ)   (σ : fhM) (o : (fhM) ⊕ (Int32 × fhM)) (h : f_X12_parlour_94 σ = some o) (hk : (fhK (fun x => fhW fhYM Γ 94 [(0, .ref 0)] [] x) (fun o => fhRet Γ (some (.int o.1)) o.2)) o) : fhW fhYM Γ 94 [(0, .ref 0)] [] σ := by
  unfold f_X12_parlour_94 at h
  refine fhW.blk fhPM fhLL hΓ [(.aload_n 0, 0), (.getfield 262, 0)] (pc' := 98) (lv' := [(0, .ref 0)]) (st' := [.int (σ.1 0 5)]) (σ' := σ) (by decide +kernel) rfl rfl rfl ?_
  refine fhW.z_ne hΓ (tgt := 116) (show fhbk _ _ (.ifCond .ne (18)) _ = true by decide +kernel) (fun hc => ?_) (fun hc => ?_)
  · rw [if_neg hc] at h
    refine fhW.sub (lv' := [(0, .ref 0)]) [0] rfl ?_
    obtain ⟨z1, hz, e1⟩ := Option.map_eq_some_iff.mp h
    clear h
    subst e1
    have h := hz
    have hk : (fun o => fhRet Γ (some (.int o.1)) o.2) z1 := hk
    exact L_X12_parlour_116 hΓ hd σ _ h hk
  · rw [if_pos hc] at h
    refine fhW.blk fhPM fhLL hΓ [(.aload_n 0, 0)] (pc' := 102) (lv' := [(0, .ref 0)]) (st' := [.ref 0]) (σ' := σ) (by decide +kernel) rfl rfl rfl ?_
    obtain ⟨q2, hb4, h⟩ := Option.bind_eq_some_iff.mp h
    refine fhW.callv hΓ mvX12_look ml_12_274 (t := 0) (ci := 12) (av := []) (rest := []) (r := (some (.int q2.1))) (σ' := q2.2) (T_X12_look (E := fhEn Γ) (d := fhD Γ - 1) (by omega) σ hb4) (by omega) (by decide +kernel) rfl rfl rfl (Nat.le_of_ble_eq_true rfl) rfl ?_
    show fhW fhYM Γ 105 [(0, .ref 0)] [.int q2.1] q2.2
    refine fhW.blk fhPM fhLL hΓ [(.iconst (-1), -1)] (pc' := 106) (lv' := [(0, .ref 0)]) (st' := [.int (-1 : Int32), .int q2.1]) (σ' := q2.2) (by decide +kernel) rfl rfl rfl ?_
    refine fhW.i_eq hΓ (tgt := 116) (show fhbk _ _ (.if_icmp .eq (10)) _ = true by decide +kernel) (fun hc => ?_) (fun hc => ?_)
    · rw [if_pos hc] at h
      refine fhW.sub (lv' := [(0, .ref 0)]) [0] rfl ?_
      obtain ⟨z2, hz, e2⟩ := Option.map_eq_some_iff.mp h
      clear h
      subst e2
      have h := hz
      have hk : (fun o => fhRet Γ (some (.int o.1)) o.2) z2 := hk
      exact L_X12_parlour_116 hΓ hd q2.2 _ h hk
    · rw [if_neg hc] at h
      refine fhW.blk fhPM fhLL hΓ [(.aload_n 0, 0)] (pc' := 110) (lv' := [(0, .ref 0)]) (st' := [.ref 0]) (σ' := q2.2) (by decide +kernel) rfl rfl rfl ?_
      obtain ⟨q3, hb5, h⟩ := Option.bind_eq_some_iff.mp h
      refine fhW.callv hΓ mvX12_statementTold ml_12_407 (t := 0) (ci := 12) (av := []) (rest := []) (r := none) (σ' := q3) (T_X12_statementTold (E := fhEn Γ) (d := fhD Γ - 1) (by omega) q2.2 hb5) (by omega) (by decide +kernel) rfl rfl rfl (Nat.le_of_ble_eq_true rfl) rfl ?_
      show fhW fhYM Γ 113 [(0, .ref 0)] [] q3
      refine fhW.goto hΓ (off := (-19)) (tgt := 94) (by decide +kernel) ?_
      refine fhW.sub (lv' := [(0, .ref 0)]) [0] rfl ?_
      have e9 := Option.some.inj h
      subst e9
      exact hk
set_option maxRecDepth 100000 in
set_option maxHeartbeats 4000000 in
theorem L_X12_parlour_60 {Γ : fhX} (hΓ : fhOk fhYM 12 cX12_parlour 2 (some .int) Γ) (hd : 11 ≤ fhD Γ) (v1 : Int32)  (σ : fhM) (o : (Int32 × fhM) ⊕ (Int32 × fhM)) (h : f_X12_parlour_60 v1 σ = some o) (hk : (fhK (fun x => fhW fhYM Γ 60 [(0, .ref 0), (1, .int x.1)] [] x.2) (fun o => fhRet Γ (some (.int o.1)) o.2)) o) : fhW fhYM Γ 60 [(0, .ref 0), (1, .int v1)] [] σ := by
  unfold f_X12_parlour_60 at h
  refine fhW.blk fhPM fhLL hΓ [(.iload_n 1, 0), (.iconst 5, 5)] (pc' := 62) (lv' := [(0, .ref 0), (1, .int v1)]) (st' := [.int (5 : Int32), .int v1]) (σ' := σ) (by decide +kernel) rfl rfl rfl ?_
  refine fhW.i_ge hΓ (tgt := 85) (show fhbk _ _ (.if_icmp .ge (23)) _ = true by decide +kernel) (fun hc => ?_) (fun hc => ?_)
  · rw [if_pos hc] at h
    refine fhW.blk fhPM fhLL hΓ [(.aload_n 0, 0)] (pc' := 86) (lv' := [(0, .ref 0), (1, .int v1)]) (st' := [.ref 0]) (σ' := σ) (by decide +kernel) rfl rfl rfl ?_
    obtain ⟨q1, hb6, h⟩ := Option.bind_eq_some_iff.mp h
    refine fhW.callv hΓ mvX12_marksTold ml_12_404 (t := 0) (ci := 12) (av := []) (rest := []) (r := none) (σ' := q1) (T_X12_marksTold (E := fhEn Γ) (d := fhD Γ - 1) (by omega) σ hb6) (by omega) (by decide +kernel) rfl rfl rfl (Nat.le_of_ble_eq_true rfl) rfl ?_
    show fhW fhYM Γ 89 [(0, .ref 0), (1, .int v1)] [] q1
    refine fhW.blk fhPM fhLL hΓ [(.aload_n 0, 0), (.iconst 1, 1), (.putfield 368, 0)] (pc' := 94) (lv' := [(0, .ref 0), (1, .int v1)]) (st' := []) (σ' := (fhI q1 0 46 (1 : Int32))) (by decide +kernel) rfl rfl rfl ?_
    refine fhW.sub (lv' := [(0, .ref 0)]) [0] rfl ?_
    obtain ⟨z3, hz, e3⟩ := Option.map_eq_some_iff.mp h
    clear h
    subst e3
    have h := hz
    have hk : (fun o => fhRet Γ (some (.int o.1)) o.2) z3 := hk
    exact fhlp_ok (W := (fun x => fhW fhYM Γ 94 [(0, .ref 0)] [] x)) (B := (fun o => fhRet Γ (some (.int o.1)) o.2)) (fun x o h hk => L_X12_parlour_94 hΓ hd x o h hk) (fhI q1 0 46 (1 : Int32)) _ h hk
  · rw [if_neg hc] at h
    obtain ⟨hg1, h⟩ := fhif h
    refine fhW.blk fhPM fhLL hΓ [(.aload_n 0, 0), (.getfield 109, 0), (.iload_n 1, 0), (.bipush 31, 31), (.iconst 1, 1), (.iload_n 1, 0), (.ishl, 0), (.iconst (-1), -1), (.ixor, 0), (.iand, 0), (.iastore, 0), (.iinc 1 1, 1)] (pc' := 82) (lv' := [(1, .int (v1 + (1 : Int32))), (0, .ref 0)]) (st' := []) (σ' := (fhI σ 32 (fhix v1) ((31 : Int32) &&& (((1 : Int32) <<< (v1 &&& 31)) ^^^ (-1 : Int32))))) (by decide +kernel) rfl rfl hg1 ?_
    refine fhW.goto hΓ (off := (-22)) (tgt := 60) (by decide +kernel) ?_
    refine fhW.sub (lv' := [(0, .ref 0), (1, .int (v1 + (1 : Int32)))]) [1, 0] rfl ?_
    have e9 := Option.some.inj h
    subst e9
    exact hk
set_option maxRecDepth 100000 in
set_option maxHeartbeats 4000000 in
theorem L_X12_parlour_40 {Γ : fhX} (hΓ : fhOk fhYM 12 cX12_parlour 2 (some .int) Γ) (hd : 11 ≤ fhD Γ) (v1 : Int32)  (σ : fhM) (o : (Int32 × fhM) ⊕ (Int32 × fhM)) (h : f_X12_parlour_40 v1 σ = some o) (hk : (fhK (fun x => fhW fhYM Γ 40 [(0, .ref 0), (1, .int x.1)] [] x.2) (fun o => fhRet Γ (some (.int o.1)) o.2)) o) : fhW fhYM Γ 40 [(0, .ref 0), (1, .int v1)] [] σ := by
  unfold f_X12_parlour_40 at h
  refine fhW.blk fhPM fhLL hΓ [(.iload_n 1, 0), (.iconst 5, 5)] (pc' := 42) (lv' := [(0, .ref 0), (1, .int v1)]) (st' := [.int (5 : Int32), .int v1]) (σ' := σ) (by decide +kernel) rfl rfl rfl ?_
  refine fhW.i_ge hΓ (tgt := 58) (show fhbk _ _ (.if_icmp .ge (16)) _ = true by decide +kernel) (fun hc => ?_) (fun hc => ?_)
  · rw [if_pos hc] at h
    refine fhW.blk fhPM fhLL hΓ [(.iconst 0, 0), (.istore_n 1, 0)] (pc' := 60) (lv' := [(1, .int (0 : Int32)), (0, .ref 0)]) (st' := []) (σ' := σ) (by decide +kernel) rfl rfl rfl ?_
    refine fhW.sub (lv' := [(0, .ref 0), (1, .int (0 : Int32))]) [1, 0] rfl ?_
    obtain ⟨z4, hz, e4⟩ := Option.map_eq_some_iff.mp h
    clear h
    subst e4
    have h := hz
    have hk : (fun o => fhRet Γ (some (.int o.1)) o.2) z4 := hk
    exact fhlp_ok (W := (fun x => fhW fhYM Γ 60 [(0, .ref 0), (1, .int x.1)] [] x.2)) (B := (fun o => fhRet Γ (some (.int o.1)) o.2)) (fun x o h hk => L_X12_parlour_60 hΓ hd x.1 x.2 o h hk) ((0 : Int32), σ) _ h hk
  · rw [if_neg hc] at h
    obtain ⟨hg2, h⟩ := fhif h
    refine fhW.blk fhPM fhLL hΓ [(.aload_n 0, 0), (.getfield 99, 0), (.iload_n 1, 0), (.iconst 0, 0), (.iastore, 0), (.iinc 1 1, 1)] (pc' := 55) (lv' := [(1, .int (v1 + (1 : Int32))), (0, .ref 0)]) (st' := []) (σ' := (fhI σ 29 (fhix v1) (0 : Int32))) (by decide +kernel) rfl rfl hg2 ?_
    refine fhW.goto hΓ (off := (-15)) (tgt := 40) (by decide +kernel) ?_
    refine fhW.sub (lv' := [(0, .ref 0), (1, .int (v1 + (1 : Int32)))]) [1, 0] rfl ?_
    have e9 := Option.some.inj h
    subst e9
    exact hk
set_option maxRecDepth 100000 in
set_option maxHeartbeats 4000000 in
theorem L_X12_parlour_E {Γ : fhX} (hΓ : fhOk fhYM 12 cX12_parlour 2 (some .int) Γ) (hd : 11 ≤ fhD Γ)   (σ : fhM) (o : Int32 × fhM) (h : f_X12_parlour σ = some o) (hk : (fun o => fhRet Γ (some (.int o.1)) o.2) o) : fhW fhYM Γ 0 [(0, .ref 0)] [] σ := by
  unfold f_X12_parlour at h
  refine fhW.blk fhPM fhLL hΓ [(.aload_n 0, 0), (.aload_n 0, 0), (.getfield 259, 0), (.putfield 271, 0), (.aload_n 0, 0), (.iconst 0, 0), (.putfield 259, 0), (.aload_n 0, 0), (.iconst 0, 0), (.putfield 268, 0), (.aload_n 0, 0), (.iconst (-1), -1), (.putfield 282, 0), (.aload_n 0, 0), (.iconst 0, 0), (.putfield 262, 0), (.aload_n 0, 0), (.iconst (-1), -1), (.putfield 265, 0), (.aload_n 0, 0), (.iconst 0, 0), (.putfield 365, 0), (.iconst 0, 0), (.istore_n 1, 0)] (pc' := 40) (lv' := [(1, .int (0 : Int32)), (0, .ref 0)]) (st' := []) (σ' := (fhI (fhI (fhI (fhI (fhI (fhI (fhI σ 0 3 (σ.1 0 1)) 0 1 (0 : Int32)) 0 2 (0 : Int32)) 0 4 (-1 : Int32)) 0 5 (0 : Int32)) 0 6 (-1 : Int32)) 0 45 (0 : Int32))) (by decide +kernel) rfl rfl rfl ?_
  refine fhW.sub (lv' := [(0, .ref 0), (1, .int (0 : Int32))]) [1, 0] rfl ?_
  exact fhlp_ok (W := (fun x => fhW fhYM Γ 40 [(0, .ref 0), (1, .int x.1)] [] x.2)) (B := (fun o => fhRet Γ (some (.int o.1)) o.2)) (fun x o h hk => L_X12_parlour_40 hΓ hd x.1 x.2 o h hk) ((0 : Int32), (fhI (fhI (fhI (fhI (fhI (fhI (fhI σ 0 3 (σ.1 0 1)) 0 1 (0 : Int32)) 0 2 (0 : Int32)) 0 4 (-1 : Int32)) 0 5 (0 : Int32)) 0 6 (-1 : Int32)) 0 45 (0 : Int32))) _ h hk
set_option maxRecDepth 100000 in
theorem T_X12_parlour {E : fhE} {d : Nat} (hd : 11 ≤ d)   (σ : fhM) {o : Int32 × fhM} (h : f_X12_parlour σ = some o) : fhC fhYM E d miX12_parlour [.ref 0] σ (some (.int o.1)) o.2 := by
  refine fhC.of (y := yX12_parlour) (cc := cX12_parlour) (nL := 2) (ret := (some .int)) 12 rfl (by decide +kernel) (Nat.le_of_ble_eq_true rfl) ?_
  intro Γ hΓ hR hD hEn
  subst hD; subst hEn
  exact L_X12_parlour_E hΓ hd   σ _ h hR
set_option maxRecDepth 100000 in
set_option maxHeartbeats 4000000 in
theorem L_X12_factMany_E {Γ : fhX} (hΓ : fhOk fhYM 12 cX12_factMany 1 (some .int) Γ) (hd : 0 ≤ fhD Γ)   (σ : fhM) (o : Int32) (h : f_X12_factMany σ = o) (hk : (fun o => fhRet Γ (some (.int o)) σ) o) : fhW fhYM Γ 0 [(0, .ref 0)] [] σ := by
  unfold f_X12_factMany at h
  refine fhW.blk fhPM fhLL hΓ [(.aload_n 0, 0), (.getfield 99, 0), (.bipush 8, 8), (.iaload, 0)] (pc' := 7) (lv' := [(0, .ref 0)]) (st' := [.int (σ.1 29 8)]) (σ' := σ) (by decide +kernel) rfl rfl rfl ?_
  subst h
  exact fhW.iret hΓ (by decide +kernel) hk
set_option maxRecDepth 100000 in
theorem T_X12_factMany {E : fhE} {d : Nat} (hd : 0 ≤ d)   (σ : fhM) : fhC fhYM E d miX12_factMany [.ref 0] σ (some (.int (f_X12_factMany σ))) σ := by
  refine fhC.of (y := yX12_factMany) (cc := cX12_factMany) (nL := 1) (ret := (some .int)) 12 rfl (by decide +kernel) (Nat.le_of_ble_eq_true rfl) ?_
  intro Γ hΓ hR hD hEn
  subst hD; subst hEn
  exact L_X12_factMany_E hΓ hd   σ _ rfl hR
set_option maxRecDepth 100000 in
set_option maxHeartbeats 4000000 in
theorem L_X12_fault_E {Γ : fhX} (hΓ : fhOk fhYM 12 cX12_fault 2 (some .int) Γ) (hd : 0 ≤ fhD Γ) (v1 : Int32)  (σ : fhM) (o : Int32) (h : f_X12_fault v1 σ = o) (hk : (fun o => fhRet Γ (some (.int o)) σ) o) : fhW fhYM Γ 0 [(0, .ref 0), (1, .int v1)] [] σ := by
  unfold f_X12_fault at h
  refine fhW.blk fhPM fhLL hΓ [(.iload_n 1, 0)] (pc' := 1) (lv' := [(0, .ref 0), (1, .int v1)]) (st' := [.int v1]) (σ' := σ) (by decide +kernel) rfl rfl rfl ?_
  refine fhW.z_ne hΓ (tgt := 11) (show fhbk _ _ (.ifCond .ne (10)) _ = true by decide +kernel) (fun hc => ?_) (fun hc => ?_)
  · rw [if_neg hc] at h
    refine fhW.blk fhPM fhLL hΓ [(.iload_n 1, 0), (.iconst 1, 1)] (pc' := 13) (lv' := [(0, .ref 0), (1, .int v1)]) (st' := [.int (1 : Int32), .int v1]) (σ' := σ) (by decide +kernel) rfl rfl rfl ?_
    refine fhW.i_ne hΓ (tgt := 23) (show fhbk _ _ (.if_icmp .ne (10)) _ = true by decide +kernel) (fun hc => ?_) (fun hc => ?_)
    · rw [if_neg hc] at h
      refine fhW.blk fhPM fhLL hΓ [(.iconst (-1), -1)] (pc' := 24) (lv' := [(0, .ref 0), (1, .int v1)]) (st' := [.int (-1 : Int32)]) (σ' := σ) (by decide +kernel) rfl rfl rfl ?_
      subst h
      exact fhW.iret hΓ (by decide +kernel) hk
    · rw [if_pos hc] at h
      refine fhW.blk fhPM fhLL hΓ [(.aload_n 0, 0), (.getfield 13, 0)] (pc' := 20) (lv' := [(0, .ref 0), (1, .int v1)]) (st' := [.int (σ.1 0 8)]) (σ' := σ) (by decide +kernel) rfl rfl rfl ?_
      refine fhW.goto hΓ (off := 4) (tgt := 24) (by decide +kernel) ?_
      subst h
      exact fhW.iret hΓ (by decide +kernel) hk
  · rw [if_pos hc] at h
    refine fhW.blk fhPM fhLL hΓ [(.aload_n 0, 0), (.getfield 413, 0)] (pc' := 8) (lv' := [(0, .ref 0), (1, .int v1)]) (st' := [.int (σ.1 0 7)]) (σ' := σ) (by decide +kernel) rfl rfl rfl ?_
    refine fhW.goto hΓ (off := 16) (tgt := 24) (by decide +kernel) ?_
    subst h
    exact fhW.iret hΓ (by decide +kernel) hk
set_option maxRecDepth 100000 in
theorem T_X12_fault {E : fhE} {d : Nat} (hd : 0 ≤ d) (v1 : Int32)  (σ : fhM) : fhC fhYM E d miX12_fault [.ref 0, .int v1] σ (some (.int (f_X12_fault v1 σ))) σ := by
  refine fhC.of (y := yX12_fault) (cc := cX12_fault) (nL := 2) (ret := (some .int)) 12 rfl (by decide +kernel) (Nat.le_of_ble_eq_true rfl) ?_
  intro Γ hΓ hR hD hEn
  subst hD; subst hEn
  exact L_X12_fault_E hΓ hd v1  σ _ rfl hR
set_option maxRecDepth 100000 in
set_option maxHeartbeats 4000000 in
theorem L_X12_isLeft_E {Γ : fhX} (hΓ : fhOk fhYM 12 cX12_isLeft 2 (some .boolean) Γ) (hd : 0 ≤ fhD Γ) (v1 : Int32)  (σ : fhM) (o : Bool) (h : f_X12_isLeft v1 σ = some o) (hk : (fun o => fhRet Γ (some (.int (fhb o))) σ) o) : fhW fhYM Γ 0 [(0, .ref 0), (1, .int v1)] [] σ := by
  unfold f_X12_isLeft at h
  obtain ⟨hg1, h⟩ := fhif h
  refine fhW.blk fhPM fhLL hΓ [(.aload_n 0, 0), (.getfield 147, 0), (.iconst 2, 2), (.iload_n 1, 0), (.iadd, 0), (.iaload, 0), (.iconst 1, 1)] (pc' := 9) (lv' := [(0, .ref 0), (1, .int v1)]) (st' := [.int (1 : Int32), .int (σ.1 44 (fhix ((2 : Int32) + v1)))]) (σ' := σ) (by decide +kernel) rfl rfl hg1 ?_
  refine fhW.i_ne hΓ (tgt := 16) (show fhbk _ _ (.if_icmp .ne (7)) _ = true by decide +kernel) (fun hc => ?_) (fun hc => ?_)
  · rw [if_neg hc] at h
    refine fhW.blk fhPM fhLL hΓ [(.iconst 0, 0)] (pc' := 17) (lv' := [(0, .ref 0), (1, .int v1)]) (st' := [.int (0 : Int32)]) (σ' := σ) (by decide +kernel) rfl rfl rfl ?_
    have e9 := Option.some.inj h
    subst e9
    exact fhW.zret (v := false) hΓ (by decide +kernel) hk
  · rw [if_pos hc] at h
    refine fhW.blk fhPM fhLL hΓ [(.iconst 1, 1)] (pc' := 13) (lv' := [(0, .ref 0), (1, .int v1)]) (st' := [.int (1 : Int32)]) (σ' := σ) (by decide +kernel) rfl rfl rfl ?_
    refine fhW.goto hΓ (off := 4) (tgt := 17) (by decide +kernel) ?_
    have e9 := Option.some.inj h
    subst e9
    exact fhW.zret (v := true) hΓ (by decide +kernel) hk
set_option maxRecDepth 100000 in
theorem T_X12_isLeft {E : fhE} {d : Nat} (hd : 0 ≤ d) (v1 : Int32)  (σ : fhM) {o : Bool} (h : f_X12_isLeft v1 σ = some o) : fhC fhYM E d miX12_isLeft [.ref 0, .int v1] σ (some (.int (fhb o))) σ := by
  refine fhC.of (y := yX12_isLeft) (cc := cX12_isLeft) (nL := 2) (ret := (some .boolean)) 12 rfl (by decide +kernel) (Nat.le_of_ble_eq_true rfl) ?_
  intro Γ hΓ hR hD hEn
  subst hD; subst hEn
  exact L_X12_isLeft_E hΓ hd v1  σ _ h hR
set_option maxRecDepth 100000 in
set_option maxHeartbeats 4000000 in
theorem L_X12_leftMany_4 {Γ : fhX} (hΓ : fhOk fhYM 12 cX12_leftMany 3 (some .int) Γ) (hd : 0 ≤ fhD Γ) (v1 : Int32) (v2 : Int32)  (σ : fhM) (o : (Int32 × Int32) ⊕ (Int32)) (h : f_X12_leftMany_4 v1 v2 σ = some o) (hk : (fhK (fun x => fhW fhYM Γ 4 [(0, .ref 0), (1, .int x.1), (2, .int x.2)] [] σ) (fun o => fhRet Γ (some (.int o)) σ)) o) : fhW fhYM Γ 4 [(0, .ref 0), (1, .int v1), (2, .int v2)] [] σ := by
  unfold f_X12_leftMany_4 at h
  refine fhW.blk fhPM fhLL hΓ [(.iload_n 2, 0), (.sipush 1024, 1024)] (pc' := 8) (lv' := [(0, .ref 0), (1, .int v1), (2, .int v2)]) (st' := [.int (1024 : Int32), .int v2]) (σ' := σ) (by decide +kernel) rfl rfl rfl ?_
  refine fhW.i_ge hΓ (tgt := 28) (show fhbk _ _ (.if_icmp .ge (20)) _ = true by decide +kernel) (fun hc => ?_) (fun hc => ?_)
  · rw [if_pos hc] at h
    refine fhW.blk fhPM fhLL hΓ [(.iload_n 1, 0)] (pc' := 29) (lv' := [(0, .ref 0), (1, .int v1), (2, .int v2)]) (st' := [.int v1]) (σ' := σ) (by decide +kernel) rfl rfl rfl ?_
    have e9 := Option.some.inj h
    subst e9
    exact fhW.iret hΓ (by decide +kernel) hk
  · rw [if_neg hc] at h
    obtain ⟨hg1, h⟩ := fhif h
    refine fhW.blk fhPM fhLL hΓ [(.iload_n 1, 0), (.aload_n 0, 0), (.getfield 147, 0), (.iconst 2, 2), (.iload_n 2, 0), (.iadd, 0), (.iaload, 0), (.iadd, 0), (.istore_n 1, 0), (.iinc 2 1, 1)] (pc' := 25) (lv' := [(2, .int (v2 + (1 : Int32))), (1, .int (v1 + (σ.1 44 (fhix ((2 : Int32) + v2))))), (0, .ref 0)]) (st' := []) (σ' := σ) (by decide +kernel) rfl rfl hg1 ?_
    refine fhW.goto hΓ (off := (-21)) (tgt := 4) (by decide +kernel) ?_
    refine fhW.sub (lv' := [(0, .ref 0), (1, .int (v1 + (σ.1 44 (fhix ((2 : Int32) + v2))))), (2, .int (v2 + (1 : Int32)))]) [2, 1, 0] rfl ?_
    have e9 := Option.some.inj h
    subst e9
    exact hk
set_option maxRecDepth 100000 in
set_option maxHeartbeats 4000000 in
theorem L_X12_leftMany_E {Γ : fhX} (hΓ : fhOk fhYM 12 cX12_leftMany 3 (some .int) Γ) (hd : 0 ≤ fhD Γ)   (σ : fhM) (o : Int32) (h : f_X12_leftMany σ = some o) (hk : (fun o => fhRet Γ (some (.int o)) σ) o) : fhW fhYM Γ 0 [(0, .ref 0)] [] σ := by
  unfold f_X12_leftMany at h
  refine fhW.blk fhPM fhLL hΓ [(.iconst 0, 0), (.istore_n 1, 0), (.iconst 0, 0), (.istore_n 2, 0)] (pc' := 4) (lv' := [(2, .int (0 : Int32)), (1, .int (0 : Int32)), (0, .ref 0)]) (st' := []) (σ' := σ) (by decide +kernel) rfl rfl rfl ?_
  refine fhW.sub (lv' := [(0, .ref 0), (1, .int (0 : Int32)), (2, .int (0 : Int32))]) [2, 1, 0] rfl ?_
  exact fhlp_ok (W := (fun x => fhW fhYM Γ 4 [(0, .ref 0), (1, .int x.1), (2, .int x.2)] [] σ)) (B := (fun o => fhRet Γ (some (.int o)) σ)) (fun x o h hk => L_X12_leftMany_4 hΓ hd x.1 x.2 σ o h hk) ((0 : Int32), (0 : Int32)) _ h hk
set_option maxRecDepth 100000 in
theorem T_X12_leftMany {E : fhE} {d : Nat} (hd : 0 ≤ d)   (σ : fhM) {o : Int32} (h : f_X12_leftMany σ = some o) : fhC fhYM E d miX12_leftMany [.ref 0] σ (some (.int o)) σ := by
  refine fhC.of (y := yX12_leftMany) (cc := cX12_leftMany) (nL := 3) (ret := (some .int)) 12 rfl (by decide +kernel) (Nat.le_of_ble_eq_true rfl) ?_
  intro Γ hΓ hR hD hEn
  subst hD; subst hEn
  exact L_X12_leftMany_E hΓ hd   σ _ h hR
set_option maxRecDepth 100000 in
set_option maxHeartbeats 4000000 in
theorem L_X12_bits_4 {Γ : fhX} (hΓ : fhOk fhYM 12 cX12_bits 3 (some .int) Γ) (hd : 0 ≤ fhD Γ) (v1 : Int32) (v2 : Int32)  (σ : fhM) (o : (Int32 × Int32) ⊕ (Int32)) (h : f_X12_bits_4 v1 v2 σ = some o) (hk : (fhK (fun x => fhW fhYM Γ 4 [(1, .int x.1), (2, .int x.2)] [] σ) (fun o => fhRet Γ (some (.int o)) σ)) o) : fhW fhYM Γ 4 [(1, .int v1), (2, .int v2)] [] σ := by
  unfold f_X12_bits_4 at h
  refine fhW.blk fhPM fhLL hΓ [(.iload_n 2, 0)] (pc' := 5) (lv' := [(1, .int v1), (2, .int v2)]) (st' := [.int v2]) (σ' := σ) (by decide +kernel) rfl rfl rfl ?_
  refine fhW.z_eq hΓ (tgt := 20) (show fhbk _ _ (.ifCond .eq (15)) _ = true by decide +kernel) (fun hc => ?_) (fun hc => ?_)
  · rw [if_pos hc] at h
    refine fhW.blk fhPM fhLL hΓ [(.iload_n 1, 0)] (pc' := 21) (lv' := [(1, .int v1), (2, .int v2)]) (st' := [.int v1]) (σ' := σ) (by decide +kernel) rfl rfl rfl ?_
    have e9 := Option.some.inj h
    subst e9
    exact fhW.iret hΓ (by decide +kernel) hk
  · rw [if_neg hc] at h
    refine fhW.blk fhPM fhLL hΓ [(.iinc 1 1, 1), (.iload_n 2, 0), (.iload_n 2, 0), (.iconst 1, 1), (.isub, 0), (.iand, 0), (.istore_n 2, 0)] (pc' := 17) (lv' := [(2, .int (v2 &&& (v2 - (1 : Int32)))), (1, .int (v1 + (1 : Int32)))]) (st' := []) (σ' := σ) (by decide +kernel) rfl rfl rfl ?_
    refine fhW.goto hΓ (off := (-13)) (tgt := 4) (by decide +kernel) ?_
    refine fhW.sub (lv' := [(1, .int (v1 + (1 : Int32))), (2, .int (v2 &&& (v2 - (1 : Int32))))]) [1, 0] rfl ?_
    have e9 := Option.some.inj h
    subst e9
    exact hk
set_option maxRecDepth 100000 in
set_option maxHeartbeats 4000000 in
theorem L_X12_bits_E {Γ : fhX} (hΓ : fhOk fhYM 12 cX12_bits 3 (some .int) Γ) (hd : 0 ≤ fhD Γ) (v0 : Int32)  (σ : fhM) (o : Int32) (h : f_X12_bits v0 σ = some o) (hk : (fun o => fhRet Γ (some (.int o)) σ) o) : fhW fhYM Γ 0 [(0, .int v0)] [] σ := by
  unfold f_X12_bits at h
  refine fhW.blk fhPM fhLL hΓ [(.iconst 0, 0), (.istore_n 1, 0), (.iload_n 0, 0), (.istore_n 2, 0)] (pc' := 4) (lv' := [(2, .int v0), (1, .int (0 : Int32)), (0, .int v0)]) (st' := []) (σ' := σ) (by decide +kernel) rfl rfl rfl ?_
  refine fhW.sub (lv' := [(1, .int (0 : Int32)), (2, .int v0)]) [1, 0] rfl ?_
  exact fhlp_ok (W := (fun x => fhW fhYM Γ 4 [(1, .int x.1), (2, .int x.2)] [] σ)) (B := (fun o => fhRet Γ (some (.int o)) σ)) (fun x o h hk => L_X12_bits_4 hΓ hd x.1 x.2 σ o h hk) ((0 : Int32), v0) _ h hk
set_option maxRecDepth 100000 in
theorem T_X12_bits {E : fhE} {d : Nat} (hd : 0 ≤ d) (v0 : Int32)  (σ : fhM) {o : Int32} (h : f_X12_bits v0 σ = some o) : fhC fhYM E d miX12_bits [.int v0] σ (some (.int o)) σ := by
  refine fhC.of (y := yX12_bits) (cc := cX12_bits) (nL := 3) (ret := (some .int)) 12 rfl (by decide +kernel) (Nat.le_of_ble_eq_true rfl) ?_
  intro Γ hΓ hR hD hEn
  subst hD; subst hEn
  exact L_X12_bits_E hΓ hd v0  σ _ h hR
set_option maxRecDepth 100000 in
set_option maxHeartbeats 4000000 in
theorem L_X12_putsAside_7 {Γ : fhX} (hΓ : fhOk fhYM 12 cX12_putsAside 2 none Γ) (hd : 0 ≤ fhD Γ) (v1 : Int32)  (σ : fhM) (o : (Int32 × fhM) ⊕ (fhM)) (h : f_X12_putsAside_7 v1 σ = some o) (hk : (fhK (fun x => fhW fhYM Γ 7 [(0, .ref 0), (1, .int x.1)] [] x.2) (fun o => fhRet Γ none o)) o) : fhW fhYM Γ 7 [(0, .ref 0), (1, .int v1)] [] σ := by
  unfold f_X12_putsAside_7 at h
  refine fhW.blk fhPM fhLL hΓ [(.iload_n 1, 0), (.sipush 1026, 1026)] (pc' := 11) (lv' := [(0, .ref 0), (1, .int v1)]) (st' := [.int (1026 : Int32), .int v1]) (σ' := σ) (by decide +kernel) rfl rfl rfl ?_
  refine fhW.i_ge hΓ (tgt := 32) (show fhbk _ _ (.if_icmp .ge (21)) _ = true by decide +kernel) (fun hc => ?_) (fun hc => ?_)
  · rw [if_pos hc] at h
    have e9 := Option.some.inj h
    subst e9
    exact fhW.vret hΓ (by decide +kernel) hk
  · rw [if_neg hc] at h
    obtain ⟨hg1, h⟩ := fhif h
    refine fhW.blk fhPM fhLL hΓ [(.aload_n 0, 0), (.getfield 150, 0), (.iload_n 1, 0), (.aload_n 0, 0), (.getfield 147, 0), (.iload_n 1, 0), (.iaload, 0), (.iastore, 0), (.iinc 1 1, 1)] (pc' := 29) (lv' := [(1, .int (v1 + (1 : Int32))), (0, .ref 0)]) (st' := []) (σ' := (fhI σ 45 (fhix v1) (σ.1 44 (fhix v1)))) (by decide +kernel) rfl rfl hg1 ?_
    refine fhW.goto hΓ (off := (-22)) (tgt := 7) (by decide +kernel) ?_
    refine fhW.sub (lv' := [(0, .ref 0), (1, .int (v1 + (1 : Int32)))]) [1, 0] rfl ?_
    have e9 := Option.some.inj h
    subst e9
    exact hk
set_option maxRecDepth 100000 in
set_option maxHeartbeats 4000000 in
theorem L_X12_putsAside_E {Γ : fhX} (hΓ : fhOk fhYM 12 cX12_putsAside 2 none Γ) (hd : 0 ≤ fhD Γ)   (σ : fhM) (o : fhM) (h : f_X12_putsAside σ = some o) (hk : (fun o => fhRet Γ none o) o) : fhW fhYM Γ 0 [(0, .ref 0)] [] σ := by
  unfold f_X12_putsAside at h
  refine fhW.blk fhPM fhLL hΓ [(.aload_n 0, 0), (.iconst 1, 1), (.putfield 472, 0), (.iconst 0, 0), (.istore_n 1, 0)] (pc' := 7) (lv' := [(1, .int (0 : Int32)), (0, .ref 0)]) (st' := []) (σ' := (fhI σ 0 62 (1 : Int32))) (by decide +kernel) rfl rfl rfl ?_
  refine fhW.sub (lv' := [(0, .ref 0), (1, .int (0 : Int32))]) [1, 0] rfl ?_
  exact fhlp_ok (W := (fun x => fhW fhYM Γ 7 [(0, .ref 0), (1, .int x.1)] [] x.2)) (B := (fun o => fhRet Γ none o)) (fun x o h hk => L_X12_putsAside_7 hΓ hd x.1 x.2 o h hk) ((0 : Int32), (fhI σ 0 62 (1 : Int32))) _ h hk
set_option maxRecDepth 100000 in
theorem T_X12_putsAside {E : fhE} {d : Nat} (hd : 0 ≤ d)   (σ : fhM) {o : fhM} (h : f_X12_putsAside σ = some o) : fhC fhYM E d miX12_putsAside [.ref 0] σ none o := by
  refine fhC.of (y := yX12_putsAside) (cc := cX12_putsAside) (nL := 2) (ret := none) 12 rfl (by decide +kernel) (Nat.le_of_ble_eq_true rfl) ?_
  intro Γ hΓ hR hD hEn
  subst hD; subst hEn
  exact L_X12_putsAside_E hΓ hd   σ _ h hR
set_option maxRecDepth 100000 in
set_option maxHeartbeats 4000000 in
theorem L_X12_triesAnew_2 {Γ : fhX} (hΓ : fhOk fhYM 12 cX12_triesAnew 2 none Γ) (hd : 0 ≤ fhD Γ) (v1 : Int32)  (σ : fhM) (o : (Int32 × fhM) ⊕ (fhM)) (h : f_X12_triesAnew_2 v1 σ = some o) (hk : (fhK (fun x => fhW fhYM Γ 2 [(0, .ref 0), (1, .int x.1)] [] x.2) (fun o => fhRet Γ none o)) o) : fhW fhYM Γ 2 [(0, .ref 0), (1, .int v1)] [] σ := by
  unfold f_X12_triesAnew_2 at h
  refine fhW.blk fhPM fhLL hΓ [(.iload_n 1, 0), (.sipush 1026, 1026)] (pc' := 6) (lv' := [(0, .ref 0), (1, .int v1)]) (st' := [.int (1026 : Int32), .int v1]) (σ' := σ) (by decide +kernel) rfl rfl rfl ?_
  refine fhW.i_ge hΓ (tgt := 27) (show fhbk _ _ (.if_icmp .ge (21)) _ = true by decide +kernel) (fun hc => ?_) (fun hc => ?_)
  · rw [if_pos hc] at h
    have e9 := Option.some.inj h
    subst e9
    exact fhW.vret hΓ (by decide +kernel) hk
  · rw [if_neg hc] at h
    obtain ⟨hg1, h⟩ := fhif h
    refine fhW.blk fhPM fhLL hΓ [(.aload_n 0, 0), (.getfield 147, 0), (.iload_n 1, 0), (.aload_n 0, 0), (.getfield 150, 0), (.iload_n 1, 0), (.iaload, 0), (.iastore, 0), (.iinc 1 1, 1)] (pc' := 24) (lv' := [(1, .int (v1 + (1 : Int32))), (0, .ref 0)]) (st' := []) (σ' := (fhI σ 44 (fhix v1) (σ.1 45 (fhix v1)))) (by decide +kernel) rfl rfl hg1 ?_
    refine fhW.goto hΓ (off := (-22)) (tgt := 2) (by decide +kernel) ?_
    refine fhW.sub (lv' := [(0, .ref 0), (1, .int (v1 + (1 : Int32)))]) [1, 0] rfl ?_
    have e9 := Option.some.inj h
    subst e9
    exact hk
set_option maxRecDepth 100000 in
set_option maxHeartbeats 4000000 in
theorem L_X12_triesAnew_E {Γ : fhX} (hΓ : fhOk fhYM 12 cX12_triesAnew 2 none Γ) (hd : 0 ≤ fhD Γ)   (σ : fhM) (o : fhM) (h : f_X12_triesAnew σ = some o) (hk : (fun o => fhRet Γ none o) o) : fhW fhYM Γ 0 [(0, .ref 0)] [] σ := by
  unfold f_X12_triesAnew at h
  refine fhW.blk fhPM fhLL hΓ [(.iconst 0, 0), (.istore_n 1, 0)] (pc' := 2) (lv' := [(1, .int (0 : Int32)), (0, .ref 0)]) (st' := []) (σ' := σ) (by decide +kernel) rfl rfl rfl ?_
  refine fhW.sub (lv' := [(0, .ref 0), (1, .int (0 : Int32))]) [1, 0] rfl ?_
  exact fhlp_ok (W := (fun x => fhW fhYM Γ 2 [(0, .ref 0), (1, .int x.1)] [] x.2)) (B := (fun o => fhRet Γ none o)) (fun x o h hk => L_X12_triesAnew_2 hΓ hd x.1 x.2 o h hk) ((0 : Int32), σ) _ h hk
set_option maxRecDepth 100000 in
theorem T_X12_triesAnew {E : fhE} {d : Nat} (hd : 0 ≤ d)   (σ : fhM) {o : fhM} (h : f_X12_triesAnew σ = some o) : fhC fhYM E d miX12_triesAnew [.ref 0] σ none o := by
  refine fhC.of (y := yX12_triesAnew) (cc := cX12_triesAnew) (nL := 2) (ret := none) 12 rfl (by decide +kernel) (Nat.le_of_ble_eq_true rfl) ?_
  intro Γ hΓ hR hD hEn
  subst hD; subst hEn
  exact L_X12_triesAnew_E hΓ hd   σ _ h hR
set_option maxRecDepth 100000 in
set_option maxHeartbeats 4000000 in
theorem L_X12_takesBack_E {Γ : fhX} (hΓ : fhOk fhYM 12 cX12_takesBack 1 none Γ) (hd : 1 ≤ fhD Γ)   (σ : fhM) (o : fhM) (h : f_X12_takesBack σ = some o) (hk : (fun o => fhRet Γ none o) o) : fhW fhYM Γ 0 [(0, .ref 0)] [] σ := by
  unfold f_X12_takesBack at h
  refine fhW.blk fhPM fhLL hΓ [(.aload_n 0, 0)] (pc' := 1) (lv' := [(0, .ref 0)]) (st' := [.ref 0]) (σ' := σ) (by decide +kernel) rfl rfl rfl ?_
  obtain ⟨q1, hb1, h⟩ := Option.bind_eq_some_iff.mp h
  refine fhW.callv hΓ mvX12_triesAnew ml_12_475 (t := 0) (ci := 12) (av := []) (rest := []) (r := none) (σ' := q1) (T_X12_triesAnew (E := fhEn Γ) (d := fhD Γ - 1) (by omega) σ hb1) (by omega) (by decide +kernel) rfl rfl rfl (Nat.le_of_ble_eq_true rfl) rfl ?_
  show fhW fhYM Γ 4 [(0, .ref 0)] [] q1
  refine fhW.blk fhPM fhLL hΓ [(.aload_n 0, 0), (.iconst 0, 0), (.putfield 472, 0)] (pc' := 9) (lv' := [(0, .ref 0)]) (st' := []) (σ' := (fhI q1 0 62 (0 : Int32))) (by decide +kernel) rfl rfl rfl ?_
  have e9 := Option.some.inj h
  subst e9
  exact fhW.vret hΓ (by decide +kernel) hk
set_option maxRecDepth 100000 in
theorem T_X12_takesBack {E : fhE} {d : Nat} (hd : 1 ≤ d)   (σ : fhM) {o : fhM} (h : f_X12_takesBack σ = some o) : fhC fhYM E d miX12_takesBack [.ref 0] σ none o := by
  refine fhC.of (y := yX12_takesBack) (cc := cX12_takesBack) (nL := 1) (ret := none) 12 rfl (by decide +kernel) (Nat.le_of_ble_eq_true rfl) ?_
  intro Γ hΓ hR hD hEn
  subst hD; subst hEn
  exact L_X12_takesBack_E hΓ hd   σ _ h hR
set_option maxRecDepth 100000 in
set_option maxHeartbeats 4000000 in
theorem L_X12_laysKnowing_161 {Γ : fhX} (hΓ : fhOk fhYM 12 cX12_laysKnowing 3 none Γ) (hd : 2 ≤ fhD Γ) (v1 : Int32) (v2 : Int32)  (σ : fhM) (o : (Int32 × fhM) ⊕ ((Int32 × fhM) ⊕ (fhM))) (h : f_X12_laysKnowing_161 v1 v2 σ = some o) (hk : (fhK (fun x => fhW fhYM Γ 110 [(0, .ref 0), (1, .int v1), (2, .int x.1)] [] x.2) (fhK (fun x => fhW fhYM Γ 25 [(0, .ref 0), (1, .int x.1)] [] x.2) (fun o => fhRet Γ none o))) o) : fhW fhYM Γ 161 [(0, .ref 0), (1, .int v1), (2, .int v2)] [] σ := by
  unfold f_X12_laysKnowing_161 at h
  refine fhW.blk fhPM fhLL hΓ [(.iinc 2 1, 1)] (pc' := 164) (lv' := [(2, .int (v2 + (1 : Int32))), (0, .ref 0), (1, .int v1)]) (st' := []) (σ' := σ) (by decide +kernel) rfl rfl rfl ?_
  refine fhW.goto hΓ (off := (-54)) (tgt := 110) (by decide +kernel) ?_
  refine fhW.sub (lv' := [(0, .ref 0), (1, .int v1), (2, .int (v2 + (1 : Int32)))]) [1, 2, 0] rfl ?_
  have e9 := Option.some.inj h
  subst e9
  exact hk
set_option maxRecDepth 100000 in
set_option maxHeartbeats 4000000 in
theorem L_X12_laysKnowing_110 {Γ : fhX} (hΓ : fhOk fhYM 12 cX12_laysKnowing 3 none Γ) (hd : 2 ≤ fhD Γ) (v1 : Int32) (v2 : Int32)  (σ : fhM) (o : (Int32 × fhM) ⊕ ((Int32 × fhM) ⊕ (fhM))) (h : f_X12_laysKnowing_110 v1 v2 σ = some o) (hk : (fhK (fun x => fhW fhYM Γ 110 [(0, .ref 0), (1, .int v1), (2, .int x.1)] [] x.2) (fhK (fun x => fhW fhYM Γ 25 [(0, .ref 0), (1, .int x.1)] [] x.2) (fun o => fhRet Γ none o))) o) : fhW fhYM Γ 110 [(0, .ref 0), (1, .int v1), (2, .int v2)] [] σ := by
  unfold f_X12_laysKnowing_110 at h
  refine fhW.blk fhPM fhLL hΓ [(.iload_n 2, 0), (.aload_n 0, 0), (.getfield 432, 0)] (pc' := 115) (lv' := [(0, .ref 0), (1, .int v1), (2, .int v2)]) (st' := [.int (σ.1 0 52), .int v2]) (σ' := σ) (by decide +kernel) rfl rfl rfl ?_
  refine fhW.i_ge hΓ (tgt := 167) (show fhbk _ _ (.if_icmp .ge (52)) _ = true by decide +kernel) (fun hc => ?_) (fun hc => ?_)
  · rw [if_pos hc] at h
    refine fhW.blk fhPM fhLL hΓ [(.iinc 1 1, 1)] (pc' := 170) (lv' := [(1, .int (v1 + (1 : Int32))), (0, .ref 0), (2, .int v2)]) (st' := []) (σ' := σ) (by decide +kernel) rfl rfl rfl ?_
    refine fhW.goto hΓ (off := (-145)) (tgt := 25) (by decide +kernel) ?_
    refine fhW.sub (lv' := [(0, .ref 0), (1, .int (v1 + (1 : Int32)))]) [1, 0] rfl ?_
    have e9 := Option.some.inj h
    subst e9
    exact hk
  · rw [if_neg hc] at h
    refine fhW.blk fhPM fhLL hΓ [(.aload_n 0, 0), (.iload_n 2, 0)] (pc' := 120) (lv' := [(0, .ref 0), (1, .int v1), (2, .int v2)]) (st' := [.int v2, .ref 0]) (σ' := σ) (by decide +kernel) rfl rfl rfl ?_
    obtain ⟨q3, hb1, h⟩ := Option.bind_eq_some_iff.mp h
    refine fhW.callv hΓ mvX12_isLeft ml_12_478 (t := 0) (ci := 12) (av := [.int v2]) (rest := []) (r := (some (.int (fhb q3)))) (σ' := σ) (T_X12_isLeft (E := fhEn Γ) (d := fhD Γ - 1) (by omega) v2 σ hb1) (by omega) (by decide +kernel) rfl rfl rfl (Nat.le_of_ble_eq_true rfl) rfl ?_
    show fhW fhYM Γ 123 [(0, .ref 0), (1, .int v1), (2, .int v2)] [.int (fhb q3)] σ
    refine fhW.b_eq hΓ (tgt := 161) (show fhbk _ _ (.ifCond .eq (38)) _ = true by decide +kernel) (fun hc => ?_) (fun hc => ?_)
    · rw [if_neg hc] at h
      refine fhW.sub (lv' := [(0, .ref 0), (1, .int v1), (2, .int v2)]) [0, 1, 2] rfl ?_
      exact L_X12_laysKnowing_161 hΓ hd v1 v2 σ _ h hk
    · rw [if_pos hc] at h
      obtain ⟨hg1, h⟩ := fhif h
      refine fhW.blk fhPM fhLL hΓ [(.aload_n 0, 0), (.getfield 140, 0), (.aload_n 0, 0), (.getfield 131, 0), (.sipush 1024, 1024), (.iload_n 1, 0), (.imul, 0), (.iload_n 2, 0), (.iadd, 0), (.iaload, 0), (.iaload, 0)] (pc' := 143) (lv' := [(0, .ref 0), (1, .int v1), (2, .int v2)]) (st' := [.int (σ.1 42 (fhix (σ.1 39 (fhix (((1024 : Int32) * v1) + v2)))))]) (σ' := σ) (by decide +kernel) rfl rfl hg1 ?_
      refine fhW.calls hΓ msX12_isOne ml_12_460 (av := [.int (σ.1 42 (fhix (σ.1 39 (fhix (((1024 : Int32) * v1) + v2)))))]) (rest := []) (r := (some (.int (fhb (f_X12_isOne (σ.1 42 (fhix (σ.1 39 (fhix (((1024 : Int32) * v1) + v2))))) σ))))) (σ' := σ) (T_X12_isOne (E := fhEn Γ) (d := fhD Γ - 1) (by omega) (σ.1 42 (fhix (σ.1 39 (fhix (((1024 : Int32) * v1) + v2))))) σ) (by omega) (by decide +kernel) rfl (Nat.le_of_ble_eq_true rfl) rfl ?_
      show fhW fhYM Γ 146 [(0, .ref 0), (1, .int v1), (2, .int v2)] [.int (fhb (f_X12_isOne (σ.1 42 (fhix (σ.1 39 (fhix (((1024 : Int32) * v1) + v2))))) σ))] σ
      refine fhW.b_eq hΓ (tgt := 161) (show fhbk _ _ (.ifCond .eq (15)) _ = true by decide +kernel) (fun hc => ?_) (fun hc => ?_)
      · rw [if_neg hc] at h
        refine fhW.sub (lv' := [(0, .ref 0), (1, .int v1), (2, .int v2)]) [0, 1, 2] rfl ?_
        exact L_X12_laysKnowing_161 hΓ hd v1 v2 σ _ h hk
      · rw [if_pos hc] at h
        obtain ⟨hg2, h⟩ := fhif h
        refine fhW.blk fhPM fhLL hΓ [(.aload_n 0, 0), (.getfield 153, 0), (.iload_n 2, 0), (.dup2, 0), (.iaload, 0), (.iconst 1, 1), (.iload_n 1, 0), (.ishl, 0), (.ior, 0), (.iastore, 0)] (pc' := 161) (lv' := [(0, .ref 0), (1, .int v1), (2, .int v2)]) (st' := []) (σ' := (fhI σ 46 (fhix v2) ((σ.1 46 (fhix v2)) ||| ((1 : Int32) <<< (v1 &&& 31))))) (by decide +kernel) rfl rfl hg2 ?_
        refine fhW.sub (lv' := [(0, .ref 0), (1, .int v1), (2, .int v2)]) [0, 1, 2] rfl ?_
        exact L_X12_laysKnowing_161 hΓ hd v1 v2 (fhI σ 46 (fhix v2) ((σ.1 46 (fhix v2)) ||| ((1 : Int32) <<< (v1 &&& 31)))) _ h hk
set_option maxRecDepth 100000 in
set_option maxHeartbeats 4000000 in
theorem L_X12_laysKnowing_102 {Γ : fhX} (hΓ : fhOk fhYM 12 cX12_laysKnowing 3 none Γ) (hd : 2 ≤ fhD Γ) (v1 : Int32) (v2 : Int32)  (σ : fhM) (o : (Int32 × fhM) ⊕ ((Int32 × fhM) ⊕ (fhM))) (h : f_X12_laysKnowing_102 v1 v2 σ = some o) (hk : (fhK (fun x => fhW fhYM Γ 58 [(0, .ref 0), (1, .int v1), (2, .int x.1)] [] x.2) (fhK (fun x => fhW fhYM Γ 25 [(0, .ref 0), (1, .int x.1)] [] x.2) (fun o => fhRet Γ none o))) o) : fhW fhYM Γ 102 [(0, .ref 0), (1, .int v1), (2, .int v2)] [] σ := by
  unfold f_X12_laysKnowing_102 at h
  refine fhW.blk fhPM fhLL hΓ [(.iinc 2 1, 1)] (pc' := 105) (lv' := [(2, .int (v2 + (1 : Int32))), (0, .ref 0), (1, .int v1)]) (st' := []) (σ' := σ) (by decide +kernel) rfl rfl rfl ?_
  refine fhW.goto hΓ (off := (-47)) (tgt := 58) (by decide +kernel) ?_
  refine fhW.sub (lv' := [(0, .ref 0), (1, .int v1), (2, .int (v2 + (1 : Int32)))]) [1, 2, 0] rfl ?_
  have e9 := Option.some.inj h
  subst e9
  exact hk
set_option maxRecDepth 100000 in
set_option maxHeartbeats 4000000 in
theorem L_X12_laysKnowing_58 {Γ : fhX} (hΓ : fhOk fhYM 12 cX12_laysKnowing 3 none Γ) (hd : 2 ≤ fhD Γ) (v1 : Int32) (v2 : Int32)  (σ : fhM) (o : (Int32 × fhM) ⊕ ((Int32 × fhM) ⊕ (fhM))) (h : f_X12_laysKnowing_58 v1 v2 σ = some o) (hk : (fhK (fun x => fhW fhYM Γ 58 [(0, .ref 0), (1, .int v1), (2, .int x.1)] [] x.2) (fhK (fun x => fhW fhYM Γ 25 [(0, .ref 0), (1, .int x.1)] [] x.2) (fun o => fhRet Γ none o))) o) : fhW fhYM Γ 58 [(0, .ref 0), (1, .int v1), (2, .int v2)] [] σ := by
  unfold f_X12_laysKnowing_58 at h
  refine fhW.blk fhPM fhLL hΓ [(.iload_n 2, 0), (.aload_n 0, 0), (.getfield 432, 0)] (pc' := 63) (lv' := [(0, .ref 0), (1, .int v1), (2, .int v2)]) (st' := [.int (σ.1 0 52), .int v2]) (σ' := σ) (by decide +kernel) rfl rfl rfl ?_
  refine fhW.i_ge hΓ (tgt := 108) (show fhbk _ _ (.if_icmp .ge (45)) _ = true by decide +kernel) (fun hc => ?_) (fun hc => ?_)
  · rw [if_pos hc] at h
    refine fhW.blk fhPM fhLL hΓ [(.iconst 0, 0), (.istore_n 2, 0)] (pc' := 110) (lv' := [(2, .int (0 : Int32)), (0, .ref 0), (1, .int v1)]) (st' := []) (σ' := σ) (by decide +kernel) rfl rfl rfl ?_
    refine fhW.sub (lv' := [(0, .ref 0), (1, .int v1), (2, .int (0 : Int32))]) [1, 2, 0] rfl ?_
    obtain ⟨z1, hz, e1⟩ := Option.map_eq_some_iff.mp h
    clear h
    subst e1
    have h := hz
    have hk : (fhK (fun x => fhW fhYM Γ 25 [(0, .ref 0), (1, .int x.1)] [] x.2) (fun o => fhRet Γ none o)) z1 := hk
    exact fhlp_ok (W := (fun x => fhW fhYM Γ 110 [(0, .ref 0), (1, .int v1), (2, .int x.1)] [] x.2)) (B := (fhK (fun x => fhW fhYM Γ 25 [(0, .ref 0), (1, .int x.1)] [] x.2) (fun o => fhRet Γ none o))) (fun x o h hk => L_X12_laysKnowing_110 hΓ hd v1 x.1 x.2 o h hk) ((0 : Int32), σ) _ h hk
  · rw [if_neg hc] at h
    refine fhW.blk fhPM fhLL hΓ [(.aload_n 0, 0), (.iload_n 2, 0)] (pc' := 68) (lv' := [(0, .ref 0), (1, .int v1), (2, .int v2)]) (st' := [.int v2, .ref 0]) (σ' := σ) (by decide +kernel) rfl rfl rfl ?_
    obtain ⟨q1, hb2, h⟩ := Option.bind_eq_some_iff.mp h
    refine fhW.callv hΓ mvX12_isLeft ml_12_478 (t := 0) (ci := 12) (av := [.int v2]) (rest := []) (r := (some (.int (fhb q1)))) (σ' := σ) (T_X12_isLeft (E := fhEn Γ) (d := fhD Γ - 1) (by omega) v2 σ hb2) (by omega) (by decide +kernel) rfl rfl rfl (Nat.le_of_ble_eq_true rfl) rfl ?_
    show fhW fhYM Γ 71 [(0, .ref 0), (1, .int v1), (2, .int v2)] [.int (fhb q1)] σ
    refine fhW.b_eq hΓ (tgt := 102) (show fhbk _ _ (.ifCond .eq (31)) _ = true by decide +kernel) (fun hc => ?_) (fun hc => ?_)
    · rw [if_neg hc] at h
      refine fhW.sub (lv' := [(0, .ref 0), (1, .int v1), (2, .int v2)]) [0, 1, 2] rfl ?_
      exact L_X12_laysKnowing_102 hΓ hd v1 v2 σ _ h hk
    · rw [if_pos hc] at h
      obtain ⟨hg3, h⟩ := fhif h
      refine fhW.blk fhPM fhLL hΓ [(.aload_n 0, 0), (.getfield 140, 0), (.aload_n 0, 0), (.getfield 131, 0), (.sipush 1024, 1024), (.iload_n 1, 0), (.imul, 0), (.iload_n 2, 0), (.iadd, 0), (.iaload, 0), (.dup2, 0), (.iaload, 0), (.iconst 1, 1), (.aload_n 0, 0), (.iload_n 2, 0), (.iload_n 1, 0)] (pc' := 96) (lv' := [(0, .ref 0), (1, .int v1), (2, .int v2)]) (st' := [.int v1, .int v2, .ref 0, .int (1 : Int32), .int (σ.1 42 (fhix (σ.1 39 (fhix (((1024 : Int32) * v1) + v2))))), .int (σ.1 39 (fhix (((1024 : Int32) * v1) + v2))), .ref 42]) (σ' := σ) (by decide +kernel) rfl rfl hg3 ?_
      obtain ⟨q2, hb3, h⟩ := Option.bind_eq_some_iff.mp h
      refine fhW.callv hΓ mvX12_markOf ml_12_429 (t := 0) (ci := 12) (av := [.int v2, .int v1]) (rest := [.int (1 : Int32), .int (σ.1 42 (fhix (σ.1 39 (fhix (((1024 : Int32) * v1) + v2))))), .int (σ.1 39 (fhix (((1024 : Int32) * v1) + v2))), .ref 42]) (r := (some (.int q2))) (σ' := σ) (T_X12_markOf (E := fhEn Γ) (d := fhD Γ - 1) (by omega) v2 v1 σ hb3) (by omega) (by decide +kernel) rfl rfl rfl (Nat.le_of_ble_eq_true rfl) rfl ?_
      show fhW fhYM Γ 99 [(0, .ref 0), (1, .int v1), (2, .int v2)] [.int q2, .int (1 : Int32), .int (σ.1 42 (fhix (σ.1 39 (fhix (((1024 : Int32) * v1) + v2))))), .int (σ.1 39 (fhix (((1024 : Int32) * v1) + v2))), .ref 42] σ
      obtain ⟨hg4, h⟩ := fhif h
      refine fhW.blk fhPM fhLL hΓ [(.ishl, 0), (.ior, 0), (.iastore, 0)] (pc' := 102) (lv' := [(0, .ref 0), (1, .int v1), (2, .int v2)]) (st' := []) (σ' := (fhI σ 42 (fhix (σ.1 39 (fhix (((1024 : Int32) * v1) + v2)))) ((σ.1 42 (fhix (σ.1 39 (fhix (((1024 : Int32) * v1) + v2))))) ||| ((1 : Int32) <<< (q2 &&& 31))))) (by decide +kernel) rfl rfl hg4 ?_
      refine fhW.sub (lv' := [(0, .ref 0), (1, .int v1), (2, .int v2)]) [0, 1, 2] rfl ?_
      exact L_X12_laysKnowing_102 hΓ hd v1 v2 (fhI σ 42 (fhix (σ.1 39 (fhix (((1024 : Int32) * v1) + v2)))) ((σ.1 42 (fhix (σ.1 39 (fhix (((1024 : Int32) * v1) + v2))))) ||| ((1 : Int32) <<< (q2 &&& 31)))) _ h hk
set_option maxRecDepth 100000 in
set_option maxHeartbeats 4000000 in
theorem L_X12_laysKnowing_35 {Γ : fhX} (hΓ : fhOk fhYM 12 cX12_laysKnowing 3 none Γ) (hd : 2 ≤ fhD Γ) (v1 : Int32) (v2 : Int32)  (σ : fhM) (o : (Int32 × fhM) ⊕ ((Int32 × fhM) ⊕ (fhM))) (h : f_X12_laysKnowing_35 v1 v2 σ = some o) (hk : (fhK (fun x => fhW fhYM Γ 35 [(0, .ref 0), (1, .int v1), (2, .int x.1)] [] x.2) (fhK (fun x => fhW fhYM Γ 25 [(0, .ref 0), (1, .int x.1)] [] x.2) (fun o => fhRet Γ none o))) o) : fhW fhYM Γ 35 [(0, .ref 0), (1, .int v1), (2, .int v2)] [] σ := by
  unfold f_X12_laysKnowing_35 at h
  refine fhW.blk fhPM fhLL hΓ [(.iload_n 2, 0), (.aload_n 0, 0), (.getfield 432, 0)] (pc' := 40) (lv' := [(0, .ref 0), (1, .int v1), (2, .int v2)]) (st' := [.int (σ.1 0 52), .int v2]) (σ' := σ) (by decide +kernel) rfl rfl rfl ?_
  refine fhW.i_ge hΓ (tgt := 56) (show fhbk _ _ (.if_icmp .ge (16)) _ = true by decide +kernel) (fun hc => ?_) (fun hc => ?_)
  · rw [if_pos hc] at h
    refine fhW.blk fhPM fhLL hΓ [(.iconst 0, 0), (.istore_n 2, 0)] (pc' := 58) (lv' := [(2, .int (0 : Int32)), (0, .ref 0), (1, .int v1)]) (st' := []) (σ' := σ) (by decide +kernel) rfl rfl rfl ?_
    refine fhW.sub (lv' := [(0, .ref 0), (1, .int v1), (2, .int (0 : Int32))]) [1, 2, 0] rfl ?_
    obtain ⟨z2, hz, e2⟩ := Option.map_eq_some_iff.mp h
    clear h
    subst e2
    have h := hz
    have hk : (fhK (fun x => fhW fhYM Γ 25 [(0, .ref 0), (1, .int x.1)] [] x.2) (fun o => fhRet Γ none o)) z2 := hk
    exact fhlp_ok (W := (fun x => fhW fhYM Γ 58 [(0, .ref 0), (1, .int v1), (2, .int x.1)] [] x.2)) (B := (fhK (fun x => fhW fhYM Γ 25 [(0, .ref 0), (1, .int x.1)] [] x.2) (fun o => fhRet Γ none o))) (fun x o h hk => L_X12_laysKnowing_58 hΓ hd v1 x.1 x.2 o h hk) ((0 : Int32), σ) _ h hk
  · rw [if_neg hc] at h
    obtain ⟨hg5, h⟩ := fhif h
    refine fhW.blk fhPM fhLL hΓ [(.aload_n 0, 0), (.getfield 140, 0), (.iload_n 2, 0), (.iconst 0, 0), (.iastore, 0), (.iinc 2 1, 1)] (pc' := 53) (lv' := [(2, .int (v2 + (1 : Int32))), (0, .ref 0), (1, .int v1)]) (st' := []) (σ' := (fhI σ 42 (fhix v2) (0 : Int32))) (by decide +kernel) rfl rfl hg5 ?_
    refine fhW.goto hΓ (off := (-18)) (tgt := 35) (by decide +kernel) ?_
    refine fhW.sub (lv' := [(0, .ref 0), (1, .int v1), (2, .int (v2 + (1 : Int32)))]) [1, 2, 0] rfl ?_
    have e9 := Option.some.inj h
    subst e9
    exact hk
set_option maxRecDepth 100000 in
set_option maxHeartbeats 4000000 in
theorem L_X12_laysKnowing_25 {Γ : fhX} (hΓ : fhOk fhYM 12 cX12_laysKnowing 3 none Γ) (hd : 2 ≤ fhD Γ) (v1 : Int32)  (σ : fhM) (o : (Int32 × fhM) ⊕ (fhM)) (h : f_X12_laysKnowing_25 v1 σ = some o) (hk : (fhK (fun x => fhW fhYM Γ 25 [(0, .ref 0), (1, .int x.1)] [] x.2) (fun o => fhRet Γ none o)) o) : fhW fhYM Γ 25 [(0, .ref 0), (1, .int v1)] [] σ := by
  unfold f_X12_laysKnowing_25 at h
  refine fhW.blk fhPM fhLL hΓ [(.iload_n 1, 0), (.aload_n 0, 0)] (pc' := 27) (lv' := [(0, .ref 0), (1, .int v1)]) (st' := [.ref 0, .int v1]) (σ' := σ) (by decide +kernel) rfl rfl rfl ?_
  refine fhW.callv hΓ mvX12_guestMany ml_12_423 (t := 0) (ci := 12) (av := []) (rest := [.int v1]) (r := (some (.int (f_X12_guestMany σ)))) (σ' := σ) (T_X12_guestMany (E := fhEn Γ) (d := fhD Γ - 1) (by omega) σ) (by omega) (by decide +kernel) rfl rfl rfl (Nat.le_of_ble_eq_true rfl) rfl ?_
  show fhW fhYM Γ 30 [(0, .ref 0), (1, .int v1)] [.int (f_X12_guestMany σ), .int v1] σ
  refine fhW.i_ge hΓ (tgt := 173) (show fhbk _ _ (.if_icmp .ge (143)) _ = true by decide +kernel) (fun hc => ?_) (fun hc => ?_)
  · rw [if_pos hc] at h
    have e9 := Option.some.inj h
    subst e9
    exact fhW.vret hΓ (by decide +kernel) hk
  · rw [if_neg hc] at h
    refine fhW.blk fhPM fhLL hΓ [(.iconst 0, 0), (.istore_n 2, 0)] (pc' := 35) (lv' := [(2, .int (0 : Int32)), (0, .ref 0), (1, .int v1)]) (st' := []) (σ' := σ) (by decide +kernel) rfl rfl rfl ?_
    refine fhW.sub (lv' := [(0, .ref 0), (1, .int v1), (2, .int (0 : Int32))]) [1, 2, 0] rfl ?_
    exact fhlp_ok (W := (fun x => fhW fhYM Γ 35 [(0, .ref 0), (1, .int v1), (2, .int x.1)] [] x.2)) (B := (fhK (fun x => fhW fhYM Γ 25 [(0, .ref 0), (1, .int x.1)] [] x.2) (fun o => fhRet Γ none o))) (fun x o h hk => L_X12_laysKnowing_35 hΓ hd v1 x.1 x.2 o h hk) ((0 : Int32), σ) _ h hk
set_option maxRecDepth 100000 in
set_option maxHeartbeats 4000000 in
theorem L_X12_laysKnowing_2 {Γ : fhX} (hΓ : fhOk fhYM 12 cX12_laysKnowing 3 none Γ) (hd : 2 ≤ fhD Γ) (v1 : Int32)  (σ : fhM) (o : (Int32 × fhM) ⊕ (fhM)) (h : f_X12_laysKnowing_2 v1 σ = some o) (hk : (fhK (fun x => fhW fhYM Γ 2 [(0, .ref 0), (1, .int x.1)] [] x.2) (fun o => fhRet Γ none o)) o) : fhW fhYM Γ 2 [(0, .ref 0), (1, .int v1)] [] σ := by
  unfold f_X12_laysKnowing_2 at h
  refine fhW.blk fhPM fhLL hΓ [(.iload_n 1, 0), (.aload_n 0, 0), (.getfield 432, 0)] (pc' := 7) (lv' := [(0, .ref 0), (1, .int v1)]) (st' := [.int (σ.1 0 52), .int v1]) (σ' := σ) (by decide +kernel) rfl rfl rfl ?_
  refine fhW.i_ge hΓ (tgt := 23) (show fhbk _ _ (.if_icmp .ge (16)) _ = true by decide +kernel) (fun hc => ?_) (fun hc => ?_)
  · rw [if_pos hc] at h
    refine fhW.blk fhPM fhLL hΓ [(.iconst 0, 0), (.istore_n 1, 0)] (pc' := 25) (lv' := [(1, .int (0 : Int32)), (0, .ref 0)]) (st' := []) (σ' := σ) (by decide +kernel) rfl rfl rfl ?_
    refine fhW.sub (lv' := [(0, .ref 0), (1, .int (0 : Int32))]) [1, 0] rfl ?_
    obtain ⟨z3, hz, e3⟩ := Option.map_eq_some_iff.mp h
    clear h
    subst e3
    have h := hz
    have hk : (fun o => fhRet Γ none o) z3 := hk
    exact fhlp_ok (W := (fun x => fhW fhYM Γ 25 [(0, .ref 0), (1, .int x.1)] [] x.2)) (B := (fun o => fhRet Γ none o)) (fun x o h hk => L_X12_laysKnowing_25 hΓ hd x.1 x.2 o h hk) ((0 : Int32), σ) _ h hk
  · rw [if_neg hc] at h
    obtain ⟨hg6, h⟩ := fhif h
    refine fhW.blk fhPM fhLL hΓ [(.aload_n 0, 0), (.getfield 153, 0), (.iload_n 1, 0), (.iconst 0, 0), (.iastore, 0), (.iinc 1 1, 1)] (pc' := 20) (lv' := [(1, .int (v1 + (1 : Int32))), (0, .ref 0)]) (st' := []) (σ' := (fhI σ 46 (fhix v1) (0 : Int32))) (by decide +kernel) rfl rfl hg6 ?_
    refine fhW.goto hΓ (off := (-18)) (tgt := 2) (by decide +kernel) ?_
    refine fhW.sub (lv' := [(0, .ref 0), (1, .int (v1 + (1 : Int32)))]) [1, 0] rfl ?_
    have e9 := Option.some.inj h
    subst e9
    exact hk
set_option maxRecDepth 100000 in
set_option maxHeartbeats 4000000 in
theorem L_X12_laysKnowing_E {Γ : fhX} (hΓ : fhOk fhYM 12 cX12_laysKnowing 3 none Γ) (hd : 2 ≤ fhD Γ)   (σ : fhM) (o : fhM) (h : f_X12_laysKnowing σ = some o) (hk : (fun o => fhRet Γ none o) o) : fhW fhYM Γ 0 [(0, .ref 0)] [] σ := by
  unfold f_X12_laysKnowing at h
  refine fhW.blk fhPM fhLL hΓ [(.iconst 0, 0), (.istore_n 1, 0)] (pc' := 2) (lv' := [(1, .int (0 : Int32)), (0, .ref 0)]) (st' := []) (σ' := σ) (by decide +kernel) rfl rfl rfl ?_
  refine fhW.sub (lv' := [(0, .ref 0), (1, .int (0 : Int32))]) [1, 0] rfl ?_
  exact fhlp_ok (W := (fun x => fhW fhYM Γ 2 [(0, .ref 0), (1, .int x.1)] [] x.2)) (B := (fun o => fhRet Γ none o)) (fun x o h hk => L_X12_laysKnowing_2 hΓ hd x.1 x.2 o h hk) ((0 : Int32), σ) _ h hk
set_option maxRecDepth 100000 in
theorem T_X12_laysKnowing {E : fhE} {d : Nat} (hd : 2 ≤ d)   (σ : fhM) {o : fhM} (h : f_X12_laysKnowing σ = some o) : fhC fhYM E d miX12_laysKnowing [.ref 0] σ none o := by
  refine fhC.of (y := yX12_laysKnowing) (cc := cX12_laysKnowing) (nL := 3) (ret := none) 12 rfl (by decide +kernel) (Nat.le_of_ble_eq_true rfl) ?_
  intro Γ hΓ hR hD hEn
  subst hD; subst hEn
  exact L_X12_laysKnowing_E hΓ hd   σ _ h hR
set_option maxRecDepth 100000 in
set_option maxHeartbeats 4000000 in
theorem L_X12_laysOwn_94 {Γ : fhX} (hΓ : fhOk fhYM 12 cX12_laysOwn 3 none Γ) (hd : 2 ≤ fhD Γ) (v1 : Int32) (v2 : Int32)  (σ : fhM) (o : (Int32 × fhM) ⊕ (fhM)) (h : f_X12_laysOwn_94 v1 v2 σ = some o) (hk : (fhK (fun x => fhW fhYM Γ 16 [(0, .ref 0), (1, .int v1), (2, .int x.1)] [] x.2) (fun o => fhRet Γ none o)) o) : fhW fhYM Γ 94 [(0, .ref 0), (1, .int v1), (2, .int v2)] [] σ := by
  unfold f_X12_laysOwn_94 at h
  refine fhW.blk fhPM fhLL hΓ [(.iinc 2 1, 1)] (pc' := 97) (lv' := [(2, .int (v2 + (1 : Int32))), (0, .ref 0), (1, .int v1)]) (st' := []) (σ' := σ) (by decide +kernel) rfl rfl rfl ?_
  refine fhW.goto hΓ (off := (-81)) (tgt := 16) (by decide +kernel) ?_
  refine fhW.sub (lv' := [(0, .ref 0), (1, .int v1), (2, .int (v2 + (1 : Int32)))]) [1, 2, 0] rfl ?_
  have e9 := Option.some.inj h
  subst e9
  exact hk
set_option maxRecDepth 100000 in
set_option maxHeartbeats 4000000 in
theorem L_X12_laysOwn_16 {Γ : fhX} (hΓ : fhOk fhYM 12 cX12_laysOwn 3 none Γ) (hd : 2 ≤ fhD Γ) (v1 : Int32) (v2 : Int32)  (σ : fhM) (o : (Int32 × fhM) ⊕ (fhM)) (h : f_X12_laysOwn_16 v1 v2 σ = some o) (hk : (fhK (fun x => fhW fhYM Γ 16 [(0, .ref 0), (1, .int v1), (2, .int x.1)] [] x.2) (fun o => fhRet Γ none o)) o) : fhW fhYM Γ 16 [(0, .ref 0), (1, .int v1), (2, .int v2)] [] σ := by
  unfold f_X12_laysOwn_16 at h
  refine fhW.blk fhPM fhLL hΓ [(.iload_n 2, 0), (.aload_n 0, 0), (.getfield 432, 0)] (pc' := 21) (lv' := [(0, .ref 0), (1, .int v1), (2, .int v2)]) (st' := [.int (σ.1 0 52), .int v2]) (σ' := σ) (by decide +kernel) rfl rfl rfl ?_
  refine fhW.i_ge hΓ (tgt := 100) (show fhbk _ _ (.if_icmp .ge (79)) _ = true by decide +kernel) (fun hc => ?_) (fun hc => ?_)
  · rw [if_pos hc] at h
    have e9 := Option.some.inj h
    subst e9
    exact fhW.vret hΓ (by decide +kernel) hk
  · rw [if_neg hc] at h
    refine fhW.blk fhPM fhLL hΓ [(.aload_n 0, 0), (.iload_n 2, 0)] (pc' := 26) (lv' := [(0, .ref 0), (1, .int v1), (2, .int v2)]) (st' := [.int v2, .ref 0]) (σ' := σ) (by decide +kernel) rfl rfl rfl ?_
    obtain ⟨q1, hb1, h⟩ := Option.bind_eq_some_iff.mp h
    refine fhW.callv hΓ mvX12_isLeft ml_12_478 (t := 0) (ci := 12) (av := [.int v2]) (rest := []) (r := (some (.int (fhb q1)))) (σ' := σ) (T_X12_isLeft (E := fhEn Γ) (d := fhD Γ - 1) (by omega) v2 σ hb1) (by omega) (by decide +kernel) rfl rfl rfl (Nat.le_of_ble_eq_true rfl) rfl ?_
    show fhW fhYM Γ 29 [(0, .ref 0), (1, .int v1), (2, .int v2)] [.int (fhb q1)] σ
    refine fhW.b_eq hΓ (tgt := 94) (show fhbk _ _ (.ifCond .eq (65)) _ = true by decide +kernel) (fun hc => ?_) (fun hc => ?_)
    · rw [if_neg hc] at h
      refine fhW.sub (lv' := [(0, .ref 0), (1, .int v1), (2, .int v2)]) [0, 1, 2] rfl ?_
      exact L_X12_laysOwn_94 hΓ hd v1 v2 σ _ h hk
    · rw [if_pos hc] at h
      obtain ⟨hg1, h⟩ := fhif h
      refine fhW.blk fhPM fhLL hΓ [(.aload_n 0, 0), (.getfield 131, 0), (.sipush 1024, 1024), (.iload_n 1, 0), (.imul, 0), (.iload_n 2, 0), (.iadd, 0), (.iaload, 0), (.aload_n 0, 0), (.getfield 131, 0), (.sipush 1024, 1024), (.iload_n 1, 0), (.imul, 0), (.aload_n 0, 0), (.getfield 147, 0), (.iconst 1, 1), (.iaload, 0), (.iadd, 0), (.iaload, 0)] (pc' := 61) (lv' := [(0, .ref 0), (1, .int v1), (2, .int v2)]) (st' := [.int (σ.1 39 (fhix (((1024 : Int32) * v1) + (σ.1 44 1)))), .int (σ.1 39 (fhix (((1024 : Int32) * v1) + v2)))]) (σ' := σ) (by decide +kernel) rfl rfl hg1 ?_
      refine fhW.i_eq hΓ (tgt := 67) (show fhbk _ _ (.if_icmp .eq (6)) _ = true by decide +kernel) (fun hc => ?_) (fun hc => ?_)
      · rw [if_pos hc] at h
        obtain ⟨hg2, h⟩ := fhif h
        refine fhW.blk fhPM fhLL hΓ [(.aload_n 0, 0), (.getfield 156, 0), (.iload_n 1, 0), (.dup2, 0), (.iaload, 0), (.iconst 1, 1), (.iadd, 0), (.iastore, 0), (.aload_n 0, 0), (.getfield 159, 0), (.iload_n 1, 0), (.dup2, 0), (.iaload, 0), (.iconst 1, 1), (.aload_n 0, 0), (.iload_n 2, 0), (.iload_n 1, 0)] (pc' := 88) (lv' := [(0, .ref 0), (1, .int v1), (2, .int v2)]) (st' := [.int v1, .int v2, .ref 0, .int (1 : Int32), .int (σ.1 48 (fhix v1)), .int v1, .ref 48]) (σ' := (fhI σ 47 (fhix v1) ((σ.1 47 (fhix v1)) + (1 : Int32)))) (by decide +kernel) rfl rfl hg2 ?_
        obtain ⟨q2, hb2, h⟩ := Option.bind_eq_some_iff.mp h
        refine fhW.callv hΓ mvX12_markOf ml_12_429 (t := 0) (ci := 12) (av := [.int v2, .int v1]) (rest := [.int (1 : Int32), .int (σ.1 48 (fhix v1)), .int v1, .ref 48]) (r := (some (.int q2))) (σ' := (fhI σ 47 (fhix v1) ((σ.1 47 (fhix v1)) + (1 : Int32)))) (T_X12_markOf (E := fhEn Γ) (d := fhD Γ - 1) (by omega) v2 v1 (fhI σ 47 (fhix v1) ((σ.1 47 (fhix v1)) + (1 : Int32))) hb2) (by omega) (by decide +kernel) rfl rfl rfl (Nat.le_of_ble_eq_true rfl) rfl ?_
        show fhW fhYM Γ 91 [(0, .ref 0), (1, .int v1), (2, .int v2)] [.int q2, .int (1 : Int32), .int (σ.1 48 (fhix v1)), .int v1, .ref 48] (fhI σ 47 (fhix v1) ((σ.1 47 (fhix v1)) + (1 : Int32)))
        obtain ⟨hg3, h⟩ := fhif h
        refine fhW.blk fhPM fhLL hΓ [(.ishl, 0), (.ior, 0), (.iastore, 0)] (pc' := 94) (lv' := [(0, .ref 0), (1, .int v1), (2, .int v2)]) (st' := []) (σ' := (fhI (fhI σ 47 (fhix v1) ((σ.1 47 (fhix v1)) + (1 : Int32))) 48 (fhix v1) ((σ.1 48 (fhix v1)) ||| ((1 : Int32) <<< (q2 &&& 31))))) (by decide +kernel) rfl rfl hg3 ?_
        refine fhW.sub (lv' := [(0, .ref 0), (1, .int v1), (2, .int v2)]) [0, 1, 2] rfl ?_
        exact L_X12_laysOwn_94 hΓ hd v1 v2 (fhI (fhI σ 47 (fhix v1) ((σ.1 47 (fhix v1)) + (1 : Int32))) 48 (fhix v1) ((σ.1 48 (fhix v1)) ||| ((1 : Int32) <<< (q2 &&& 31)))) _ h hk
      · rw [if_neg hc] at h
        refine fhW.goto hΓ (off := 30) (tgt := 94) (by decide +kernel) ?_
        refine fhW.sub (lv' := [(0, .ref 0), (1, .int v1), (2, .int v2)]) [0, 1, 2] rfl ?_
        exact L_X12_laysOwn_94 hΓ hd v1 v2 σ _ h hk
set_option maxRecDepth 100000 in
set_option maxHeartbeats 4000000 in
theorem L_X12_laysOwn_E {Γ : fhX} (hΓ : fhOk fhYM 12 cX12_laysOwn 3 none Γ) (hd : 2 ≤ fhD Γ) (v1 : Int32)  (σ : fhM) (o : fhM) (h : f_X12_laysOwn v1 σ = some o) (hk : (fun o => fhRet Γ none o) o) : fhW fhYM Γ 0 [(0, .ref 0), (1, .int v1)] [] σ := by
  unfold f_X12_laysOwn at h
  obtain ⟨hg4, h⟩ := fhif h
  refine fhW.blk fhPM fhLL hΓ [(.aload_n 0, 0), (.getfield 156, 0), (.iload_n 1, 0), (.iconst 0, 0), (.iastore, 0), (.aload_n 0, 0), (.getfield 159, 0), (.iload_n 1, 0), (.iconst 0, 0), (.iastore, 0), (.iconst 0, 0), (.istore_n 2, 0)] (pc' := 16) (lv' := [(2, .int (0 : Int32)), (0, .ref 0), (1, .int v1)]) (st' := []) (σ' := (fhI (fhI σ 47 (fhix v1) (0 : Int32)) 48 (fhix v1) (0 : Int32))) (by decide +kernel) rfl rfl hg4 ?_
  refine fhW.sub (lv' := [(0, .ref 0), (1, .int v1), (2, .int (0 : Int32))]) [1, 2, 0] rfl ?_
  exact fhlp_ok (W := (fun x => fhW fhYM Γ 16 [(0, .ref 0), (1, .int v1), (2, .int x.1)] [] x.2)) (B := (fun o => fhRet Γ none o)) (fun x o h hk => L_X12_laysOwn_16 hΓ hd v1 x.1 x.2 o h hk) ((0 : Int32), (fhI (fhI σ 47 (fhix v1) (0 : Int32)) 48 (fhix v1) (0 : Int32))) _ h hk
set_option maxRecDepth 100000 in
theorem T_X12_laysOwn {E : fhE} {d : Nat} (hd : 2 ≤ d) (v1 : Int32)  (σ : fhM) {o : fhM} (h : f_X12_laysOwn v1 σ = some o) : fhC fhYM E d miX12_laysOwn [.ref 0, .int v1] σ none o := by
  refine fhC.of (y := yX12_laysOwn) (cc := cX12_laysOwn) (nL := 3) (ret := none) 12 rfl (by decide +kernel) (Nat.le_of_ble_eq_true rfl) ?_
  intro Γ hΓ hR hD hEn
  subst hD; subst hEn
  exact L_X12_laysOwn_E hΓ hd v1  σ _ h hR
set_option maxRecDepth 100000 in
set_option maxHeartbeats 4000000 in
theorem L_X12_doesKnow_E {Γ : fhX} (hΓ : fhOk fhYM 12 cX12_doesKnow 2 (some .boolean) Γ) (hd : 3 ≤ fhD Γ) (v1 : Int32)  (σ : fhM) (o : Bool × fhM) (h : f_X12_doesKnow v1 σ = some o) (hk : (fun o => fhRet Γ (some (.int (fhb o.1))) o.2) o) : fhW fhYM Γ 0 [(0, .ref 0), (1, .int v1)] [] σ := by
  unfold f_X12_doesKnow at h
  refine fhW.blk fhPM fhLL hΓ [(.aload_n 0, 0), (.iload_n 1, 0)] (pc' := 2) (lv' := [(0, .ref 0), (1, .int v1)]) (st' := [.int v1, .ref 0]) (σ' := σ) (by decide +kernel) rfl rfl rfl ?_
  obtain ⟨q1, hb1, h⟩ := Option.bind_eq_some_iff.mp h
  refine fhW.callv hΓ mvX12_laysOwn ml_12_481 (t := 0) (ci := 12) (av := [.int v1]) (rest := []) (r := none) (σ' := q1) (T_X12_laysOwn (E := fhEn Γ) (d := fhD Γ - 1) (by omega) v1 σ hb1) (by omega) (by decide +kernel) rfl rfl rfl (Nat.le_of_ble_eq_true rfl) rfl ?_
  show fhW fhYM Γ 5 [(0, .ref 0), (1, .int v1)] [] q1
  obtain ⟨hg1, h⟩ := fhif h
  refine fhW.blk fhPM fhLL hΓ [(.aload_n 0, 0), (.getfield 159, 0), (.iload_n 1, 0), (.iaload, 0)] (pc' := 11) (lv' := [(0, .ref 0), (1, .int v1)]) (st' := [.int (q1.1 48 (fhix v1))]) (σ' := q1) (by decide +kernel) rfl rfl hg1 ?_
  refine fhW.calls hΓ msX12_isOne ml_12_460 (av := [.int (q1.1 48 (fhix v1))]) (rest := []) (r := (some (.int (fhb (f_X12_isOne (q1.1 48 (fhix v1)) q1))))) (σ' := q1) (T_X12_isOne (E := fhEn Γ) (d := fhD Γ - 1) (by omega) (q1.1 48 (fhix v1)) q1) (by omega) (by decide +kernel) rfl (Nat.le_of_ble_eq_true rfl) rfl ?_
  show fhW fhYM Γ 14 [(0, .ref 0), (1, .int v1)] [.int (fhb (f_X12_isOne (q1.1 48 (fhix v1)) q1))] q1
  have e9 := Option.some.inj h
  subst e9
  exact fhW.zret (v := (f_X12_isOne (q1.1 48 (fhix v1)) q1)) hΓ (by decide +kernel) hk
set_option maxRecDepth 100000 in
theorem T_X12_doesKnow {E : fhE} {d : Nat} (hd : 3 ≤ d) (v1 : Int32)  (σ : fhM) {o : Bool × fhM} (h : f_X12_doesKnow v1 σ = some o) : fhC fhYM E d miX12_doesKnow [.ref 0, .int v1] σ (some (.int (fhb o.1))) o.2 := by
  refine fhC.of (y := yX12_doesKnow) (cc := cX12_doesKnow) (nL := 2) (ret := (some .boolean)) 12 rfl (by decide +kernel) (Nat.le_of_ble_eq_true rfl) ?_
  intro Γ hΓ hR hD hEn
  subst hD; subst hEn
  exact L_X12_doesKnow_E hΓ hd v1  σ _ h hR
