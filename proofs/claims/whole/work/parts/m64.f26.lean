set_option maxRecDepth 100000 in
set_option maxHeartbeats 4000000 in
theorem L_X5_leaf_83 {Γ : fhX} (hE : fhEok fhYF (fhEn Γ)) (hΓ : fhOk fhYF 5 cX5_leaf 3 none Γ) (hd : 2 ≤ fhD Γ) (v2 : Int32)  (σ : fhM) (o : fhM) (h : f_X5_leaf_83 v2 σ = some o) (hk : (fun o => fhRet Γ none o) o) : fhW fhYF Γ 83 [(0, .ref 9), (2, .int v2)] [] σ := by
  unfold f_X5_leaf_83 at h
  refine fhW.blk fhPF fhLL hΓ [(.iload_n 2, 0), (.iconst (-1), -1)] (pc' := 85) (lv' := [(0, .ref 9), (2, .int v2)]) (st' := [.int (-1 : Int32), .int v2]) (σ' := σ) (by decide +kernel) rfl rfl rfl ?_
  refine fhW.i_ne hΓ (tgt := 96) (show fhbk _ _ (.if_icmp .ne (11)) _ = true by decide +kernel) (fun hc => ?_) (fun hc => ?_)
  · rw [if_neg hc] at h
    refine fhW.blk fhPF fhLL hΓ [(.aload_n 0, 0), (.getfield 15, 0), (.iconst 1, 1), (.iload_n 2, 0)] (pc' := 102) (lv' := [(0, .ref 9), (2, .int v2)]) (st' := [.int v2, .int (1 : Int32), .ref (σ.2.2 9 1)]) (σ' := σ) (by decide +kernel) rfl rfl rfl ?_
    obtain ⟨hy1, h⟩ := fhif h
    refine fhW.callv hΓ mvX3_add ml_5_64 (t := (σ.2.2 9 1)) (ci := 3) (av := [.int (1 : Int32), .int v2]) (rest := []) (r := none) (σ' := (f_X3_add (σ.2.2 9 1) (1 : Int32) v2 σ)) (T_X3_add (E := fhEn Γ) (d := fhD Γ - 1) hE (by omega) (σ.2.2 9 1) (1 : Int32) v2 hy1 σ) (by omega) (by decide +kernel) rfl (fhiK_g hy1) rfl (Nat.le_of_ble_eq_true rfl) rfl ?_
    show fhW fhYF Γ 105 [(0, .ref 9), (2, .int v2)] [] (f_X3_add (σ.2.2 9 1) (1 : Int32) v2 σ)
    obtain ⟨q2, e1, h⟩ := fhlet_elim h
    rw [← e1]
    refine fhW.blk fhPF fhLL hΓ [(.aload_n 0, 0), (.getfield 9, 0)] (pc' := 109) (lv' := [(0, .ref 9), (2, .int v2)]) (st' := [.ref 3]) (σ' := q2) (by decide +kernel) rfl rfl rfl ?_
    refine fhW.callv hΓ mvX8_advance ml_5_29 (t := 3) (ci := 8) (av := []) (rest := []) (r := none) (σ' := (f_X8_advance q2)) (T_X8_advance (E := fhEn Γ) (d := fhD Γ - 1) hE (by omega) q2) (by omega) (by decide +kernel) rfl rfl rfl (Nat.le_of_ble_eq_true rfl) rfl ?_
    show fhW fhYF Γ 112 [(0, .ref 9), (2, .int v2)] [] (f_X8_advance q2)
    obtain ⟨q3, e2, h⟩ := fhlet_elim h
    rw [← e2]
    have e9 := Option.some.inj h
    subst e9
    exact fhW.vret hΓ (by decide +kernel) hk
  · rw [if_pos hc] at h
    refine fhW.blk fhPF fhLL hΓ [(.aload_n 0, 0), (.getfield 9, 0)] (pc' := 92) (lv' := [(0, .ref 9), (2, .int v2)]) (st' := [.ref 3]) (σ' := σ) (by decide +kernel) rfl rfl rfl ?_
    refine fhW.callv hΓ mvX8_failHere ml_5_38 (t := 3) (ci := 8) (av := []) (rest := []) (r := none) (σ' := (f_X8_failHere σ)) (T_X8_failHere (E := fhEn Γ) (d := fhD Γ - 1) hE (by omega) σ) (by omega) (by decide +kernel) rfl rfl rfl (Nat.le_of_ble_eq_true rfl) rfl ?_
    show fhW fhYF Γ 95 [(0, .ref 9), (2, .int v2)] [] (f_X8_failHere σ)
    obtain ⟨q4, e3, h⟩ := fhlet_elim h
    rw [← e3]
    have e9 := Option.some.inj h
    subst e9
    exact fhW.vret hΓ (by decide +kernel) hk
set_option maxRecDepth 100000 in
set_option maxHeartbeats 4000000 in
theorem L_X5_leaf_61 {Γ : fhX} (hE : fhEok fhYF (fhEn Γ)) (hΓ : fhOk fhYF 5 cX5_leaf 3 none Γ) (hd : 2 ≤ fhD Γ) (v2 : Int32)  (σ : fhM) (o : fhM) (h : f_X5_leaf_61 v2 σ = some o) (hk : (fun o => fhRet Γ none o) o) : fhW fhYF Γ 61 [(0, .ref 9), (2, .int v2)] [] σ := by
  unfold f_X5_leaf_61 at h
  refine fhW.blk fhPF fhLL hΓ [(.aload_n 0, 0), (.getfield 45, 0)] (pc' := 65) (lv' := [(0, .ref 9), (2, .int v2)]) (st' := [fhnv (σ.2.2 9 2)]) (σ' := σ) (by decide +kernel) rfl rfl rfl ?_
  refine fhW.nullN hΓ (tgt := 83) (show fhbk _ _ (.ifnull (18)) _ = true by decide +kernel) (fun hc => ?_) (fun hc => ?_)
  · rw [if_pos hc] at h
    refine fhW.sub (lv' := [(0, .ref 9), (2, .int v2)]) [0, 1] rfl ?_
    exact L_X5_leaf_83 hE hΓ hd v2 σ _ h hk
  · rw [if_neg hc] at h
    refine fhW.blk fhPF fhLL hΓ [(.aload_n 0, 0), (.getfield 45, 0), (.aload_n 0, 0), (.getfield 9, 0)] (pc' := 76) (lv' := [(0, .ref 9), (2, .int v2)]) (st' := [.ref 3, fhnv (σ.2.2 9 2)]) (σ' := σ) (by decide +kernel) rfl rfl rfl ?_
    refine fhW.callv hΓ mvX8_lettersHere ml_5_118 (t := 3) (ci := 8) (av := []) (rest := [fhnv (σ.2.2 9 2)]) (r := (some (.int (f_X8_lettersHere σ)))) (σ' := σ) (T_X8_lettersHere (E := fhEn Γ) (d := fhD Γ - 1) hE (by omega) σ) (by omega) (by decide +kernel) rfl rfl rfl (by generalize (σ.2.2 9 2) = zz; cases zz <;> exact Nat.le_of_ble_eq_true rfl) rfl ?_
    show fhW fhYF Γ 79 [(0, .ref 9), (2, .int v2)] [.int (f_X8_lettersHere σ), fhnv (σ.2.2 9 2)] σ
    obtain ⟨hy2, h⟩ := fhif h
    obtain ⟨q1, hb1, h⟩ := Option.bind_eq_some_iff.mp h
    rw [show fhnv (σ.2.2 9 2) = .ref (σ.2.2 9 2) by rcases fhiP_or hy2 with e | e <;> rw [e] <;> rfl]
    refine fhW.callv hΓ mvX7_guestNamed ml_5_121 (t := (σ.2.2 9 2)) (ci := 7) (av := [.int (f_X8_lettersHere σ)]) (rest := []) (r := (some (.int q1))) (σ' := σ) (T_X7_guestNamed (E := fhEn Γ) (d := fhD Γ - 1) hE (by omega) (σ.2.2 9 2) (f_X8_lettersHere σ) hy2 σ hb1) (by omega) (by decide +kernel) rfl (fhiP_g hy2) rfl (Nat.le_of_ble_eq_true rfl) rfl ?_
    show fhW fhYF Γ 82 [(0, .ref 9), (2, .int v2)] [.int q1] σ
    refine fhW.blk fhPF fhLL hΓ [(.istore_n 2, 0)] (pc' := 83) (lv' := [(2, .int q1), (0, .ref 9)]) (st' := []) (σ' := σ) (by decide +kernel) rfl rfl rfl ?_
    refine fhW.sub (lv' := [(0, .ref 9), (2, .int q1)]) [1, 0] rfl ?_
    exact L_X5_leaf_83 hE hΓ hd q1 σ _ h hk
set_option maxRecDepth 100000 in
set_option maxHeartbeats 4000000 in
theorem L_X5_leaf_37 {Γ : fhX} (hE : fhEok fhYF (fhEn Γ)) (hΓ : fhOk fhYF 5 cX5_leaf 3 none Γ) (hd : 2 ≤ fhD Γ) (s0 : Int32)  (σ : fhM) (o : fhM) (h : f_X5_leaf_37 s0 σ = some o) (hk : (fun o => fhRet Γ none o) o) : fhW fhYF Γ 37 [(0, .ref 9)] [.int s0] σ := by
  unfold f_X5_leaf_37 at h
  refine fhW.blk fhPF fhLL hΓ [(.istore_n 2, 0)] (pc' := 38) (lv' := [(2, .int s0), (0, .ref 9)]) (st' := []) (σ' := σ) (by decide +kernel) rfl rfl rfl ?_
  refine fhW.goto hΓ (off := 45) (tgt := 83) (by decide +kernel) ?_
  refine fhW.sub (lv' := [(0, .ref 9), (2, .int s0)]) [1, 0] rfl ?_
  exact L_X5_leaf_83 hE hΓ hd s0 σ _ h hk
set_option maxRecDepth 100000 in
set_option maxHeartbeats 4000000 in
theorem L_X5_leaf_36 {Γ : fhX} (hE : fhEok fhYF (fhEn Γ)) (hΓ : fhOk fhYF 5 cX5_leaf 3 none Γ) (hd : 2 ≤ fhD Γ)   (σ : fhM) (o : fhM) (h : f_X5_leaf_36 σ = some o) (hk : (fun o => fhRet Γ none o) o) : fhW fhYF Γ 36 [(0, .ref 9)] [] σ := by
  unfold f_X5_leaf_36 at h
  refine fhW.blk fhPF fhLL hΓ [(.iconst (-1), -1)] (pc' := 37) (lv' := [(0, .ref 9)]) (st' := [.int (-1 : Int32)]) (σ' := σ) (by decide +kernel) rfl rfl rfl ?_
  refine fhW.sub (lv' := [(0, .ref 9)]) [0] rfl ?_
  exact L_X5_leaf_37 hE hΓ hd (-1 : Int32) σ _ h hk
set_option maxRecDepth 100000 in
set_option maxHeartbeats 4000000 in
theorem L_X5_leaf_E {Γ : fhX} (hE : fhEok fhYF (fhEn Γ)) (hΓ : fhOk fhYF 5 cX5_leaf 3 none Γ) (hd : 2 ≤ fhD Γ)   (σ : fhM) (o : fhM) (h : f_X5_leaf σ = some o) (hk : (fun o => fhRet Γ none o) o) : fhW fhYF Γ 0 [(0, .ref 9)] [] σ := by
  unfold f_X5_leaf at h
  refine fhW.blk fhPF fhLL hΓ [(.aload_n 0, 0), (.getfield 9, 0)] (pc' := 4) (lv' := [(0, .ref 9)]) (st' := [.ref 3]) (σ' := σ) (by decide +kernel) rfl rfl rfl ?_
  refine fhW.callv hΓ mvX8_wordHere ml_5_23 (t := 3) (ci := 8) (av := []) (rest := []) (r := (some (.int (f_X8_wordHere σ)))) (σ' := σ) (T_X8_wordHere (E := fhEn Γ) (d := fhD Γ - 1) hE (by omega) σ) (by omega) (by decide +kernel) rfl rfl rfl (Nat.le_of_ble_eq_true rfl) rfl ?_
  show fhW fhYF Γ 7 [(0, .ref 9)] [.int (f_X8_wordHere σ)] σ
  refine fhW.blk fhPF fhLL hΓ [(.istore_n 1, 0), (.iconst (-1), -1), (.istore_n 2, 0), (.aload_n 0, 0), (.getfield 49, 0)] (pc' := 14) (lv' := [(2, .int (-1 : Int32)), (1, .int (f_X8_wordHere σ)), (0, .ref 9)]) (st' := [.int (σ.1 9 3)]) (σ' := σ) (by decide +kernel) rfl rfl rfl ?_
  refine fhW.z_eq hΓ (tgt := 41) (show fhbk _ _ (.ifCond .eq (27)) _ = true by decide +kernel) (fun hc => ?_) (fun hc => ?_)
  · rw [if_pos hc] at h
    refine fhW.blk fhPF fhLL hΓ [(.iload_n 1, 0), (.bipush 8, 8)] (pc' := 44) (lv' := [(2, .int (-1 : Int32)), (1, .int (f_X8_wordHere σ)), (0, .ref 9)]) (st' := [.int (8 : Int32), .int (f_X8_wordHere σ)]) (σ' := σ) (by decide +kernel) rfl rfl rfl ?_
    refine fhW.i_lt hΓ (tgt := 61) (show fhbk _ _ (.if_icmp .lt (17)) _ = true by decide +kernel) (fun hc => ?_) (fun hc => ?_)
    · rw [if_pos hc] at h
      refine fhW.sub (lv' := [(0, .ref 9), (2, .int (-1 : Int32))]) [2, 0] rfl ?_
      exact L_X5_leaf_61 hE hΓ hd (-1 : Int32) σ _ h hk
    · rw [if_neg hc] at h
      refine fhW.blk fhPF fhLL hΓ [(.iload_n 1, 0), (.bipush 11, 11)] (pc' := 50) (lv' := [(2, .int (-1 : Int32)), (1, .int (f_X8_wordHere σ)), (0, .ref 9)]) (st' := [.int (11 : Int32), .int (f_X8_wordHere σ)]) (σ' := σ) (by decide +kernel) rfl rfl rfl ?_
      refine fhW.i_gt hΓ (tgt := 61) (show fhbk _ _ (.if_icmp .gt (11)) _ = true by decide +kernel) (fun hc => ?_) (fun hc => ?_)
      · rw [if_pos hc] at h
        refine fhW.sub (lv' := [(0, .ref 9), (2, .int (-1 : Int32))]) [2, 0] rfl ?_
        exact L_X5_leaf_61 hE hΓ hd (-1 : Int32) σ _ h hk
      · rw [if_neg hc] at h
        refine fhW.blk fhPF fhLL hΓ [(.bipush (-3), -3), (.iload_n 1, 0), (.iadd, 0), (.istore_n 2, 0)] (pc' := 58) (lv' := [(2, .int ((-3 : Int32) + (f_X8_wordHere σ))), (1, .int (f_X8_wordHere σ)), (0, .ref 9)]) (st' := []) (σ' := σ) (by decide +kernel) rfl rfl rfl ?_
        refine fhW.goto hΓ (off := 25) (tgt := 83) (by decide +kernel) ?_
        refine fhW.sub (lv' := [(0, .ref 9), (2, .int ((-3 : Int32) + (f_X8_wordHere σ)))]) [2, 0] rfl ?_
        exact L_X5_leaf_83 hE hΓ hd ((-3 : Int32) + (f_X8_wordHere σ)) σ _ h hk
  · rw [if_neg hc] at h
    refine fhW.blk fhPF fhLL hΓ [(.iload_n 1, 0), (.bipush 13, 13)] (pc' := 20) (lv' := [(2, .int (-1 : Int32)), (1, .int (f_X8_wordHere σ)), (0, .ref 9)]) (st' := [.int (13 : Int32), .int (f_X8_wordHere σ)]) (σ' := σ) (by decide +kernel) rfl rfl rfl ?_
    refine fhW.i_lt hΓ (tgt := 36) (show fhbk _ _ (.if_icmp .lt (16)) _ = true by decide +kernel) (fun hc => ?_) (fun hc => ?_)
    · rw [if_pos hc] at h
      refine fhW.sub (lv' := [(0, .ref 9)]) [2] rfl ?_
      exact L_X5_leaf_36 hE hΓ hd σ _ h hk
    · rw [if_neg hc] at h
      refine fhW.blk fhPF fhLL hΓ [(.iload_n 1, 0), (.bipush 17, 17)] (pc' := 26) (lv' := [(2, .int (-1 : Int32)), (1, .int (f_X8_wordHere σ)), (0, .ref 9)]) (st' := [.int (17 : Int32), .int (f_X8_wordHere σ)]) (σ' := σ) (by decide +kernel) rfl rfl rfl ?_
      refine fhW.i_gt hΓ (tgt := 36) (show fhbk _ _ (.if_icmp .gt (10)) _ = true by decide +kernel) (fun hc => ?_) (fun hc => ?_)
      · rw [if_pos hc] at h
        refine fhW.sub (lv' := [(0, .ref 9)]) [2] rfl ?_
        exact L_X5_leaf_36 hE hΓ hd σ _ h hk
      · rw [if_neg hc] at h
        refine fhW.blk fhPF fhLL hΓ [(.bipush (-3), -3), (.iload_n 1, 0), (.iadd, 0)] (pc' := 33) (lv' := [(2, .int (-1 : Int32)), (1, .int (f_X8_wordHere σ)), (0, .ref 9)]) (st' := [.int ((-3 : Int32) + (f_X8_wordHere σ))]) (σ' := σ) (by decide +kernel) rfl rfl rfl ?_
        refine fhW.goto hΓ (off := 4) (tgt := 37) (by decide +kernel) ?_
        refine fhW.sub (lv' := [(0, .ref 9)]) [2] rfl ?_
        exact L_X5_leaf_37 hE hΓ hd ((-3 : Int32) + (f_X8_wordHere σ)) σ _ h hk
set_option maxRecDepth 100000 in
theorem T_X5_leaf {E : fhE} {d : Nat} (hE : fhEok fhYF E) (hd : 2 ≤ d)   (σ : fhM) {o : fhM} (h : f_X5_leaf σ = some o) : fhC fhYF E d miX5_leaf [.ref 9] σ none o := by
  refine fhC.of (y := yX5_leaf) (cc := cX5_leaf) (nL := 3) (ret := none) 5 rfl (by decide +kernel) (Nat.le_of_ble_eq_true rfl) ?_
  intro Γ hΓ hR hD hEn
  subst hD; subst hEn
  exact L_X5_leaf_E hE hΓ hd   σ _ h hR
set_option maxRecDepth 100000 in
set_option maxHeartbeats 4000000 in
theorem L_X8_isNumber_E {Γ : fhX} (hE : fhEok fhYF (fhEn Γ)) (hΓ : fhOk fhYF 8 cX8_isNumber 1 (some .boolean) Γ) (hd : 0 ≤ fhD Γ)   (σ : fhM) (o : Bool) (h : f_X8_isNumber σ = o) (hk : (fun o => fhRet Γ (some (.int (fhb o))) σ) o) : fhW fhYF Γ 0 [(0, .ref 3)] [] σ := by
  unfold f_X8_isNumber at h
  refine fhW.blk fhPF fhLL hΓ [(.aload_n 0, 0), (.getfield 75, 0), (.iconst 2, 2)] (pc' := 5) (lv' := [(0, .ref 3)]) (st' := [.int (2 : Int32), .int (σ.1 3 4)]) (σ' := σ) (by decide +kernel) rfl rfl rfl ?_
  refine fhW.i_ne hΓ (tgt := 12) (show fhbk _ _ (.if_icmp .ne (7)) _ = true by decide +kernel) (fun hc => ?_) (fun hc => ?_)
  · rw [if_neg hc] at h
    refine fhW.blk fhPF fhLL hΓ [(.iconst 0, 0)] (pc' := 13) (lv' := [(0, .ref 3)]) (st' := [.int (0 : Int32)]) (σ' := σ) (by decide +kernel) rfl rfl rfl ?_
    subst h
    exact fhW.zret (v := false) hΓ (by decide +kernel) hk
  · rw [if_pos hc] at h
    refine fhW.blk fhPF fhLL hΓ [(.iconst 1, 1)] (pc' := 9) (lv' := [(0, .ref 3)]) (st' := [.int (1 : Int32)]) (σ' := σ) (by decide +kernel) rfl rfl rfl ?_
    refine fhW.goto hΓ (off := 4) (tgt := 13) (by decide +kernel) ?_
    subst h
    exact fhW.zret (v := true) hΓ (by decide +kernel) hk
set_option maxRecDepth 100000 in
theorem T_X8_isNumber {E : fhE} {d : Nat} (hE : fhEok fhYF E) (hd : 0 ≤ d)   (σ : fhM) : fhC fhYF E d miX8_isNumber [.ref 3] σ (some (.int (fhb (f_X8_isNumber σ)))) σ := by
  refine fhC.of (y := yX8_isNumber) (cc := cX8_isNumber) (nL := 1) (ret := (some .boolean)) 8 rfl (by decide +kernel) (Nat.le_of_ble_eq_true rfl) ?_
  intro Γ hΓ hR hD hEn
  subst hD; subst hEn
  exact L_X8_isNumber_E hE hΓ hd   σ _ rfl hR

