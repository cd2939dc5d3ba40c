set_option maxRecDepth 100000 in
set_option maxHeartbeats 4000000 in
theorem L_X12_qPartTold_270 {Γ : fhX} (hΓ : fhOk fhYM 12 cX12_qPartTold 6 none Γ) (hd : 5 ≤ fhD Γ) (s0 : Int32)  (σ : fhM) (o : fhM) (h : f_X12_qPartTold_270 s0 σ = some o) (hk : (fun o => fhRet Γ none o) o) : fhW fhYM Γ 270 [(0, .ref 0)] [.int s0, .ref 0] σ := by
  unfold f_X12_qPartTold_270 at h
  obtain ⟨q15, hb1, h⟩ := Option.bind_eq_some_iff.mp h
  refine fhW.callv hΓ mvX12_qCode ml_12_587 (t := 0) (ci := 12) (av := [.int s0]) (rest := []) (r := none) (σ' := q15) (T_X12_qCode (E := fhEn Γ) (d := fhD Γ - 1) (by omega) s0 σ hb1) (by omega) (by decide +kernel) rfl rfl rfl (Nat.le_of_ble_eq_true rfl) rfl ?_
  show fhW fhYM Γ 273 [(0, .ref 0)] [] q15
  refine fhW.blk fhPM fhLL hΓ [(.aload_n 0, 0)] (pc' := 274) (lv' := [(0, .ref 0)]) (st' := [.ref 0]) (σ' := q15) (by decide +kernel) rfl rfl rfl ?_
  obtain ⟨q16, hb2, h⟩ := Option.bind_eq_some_iff.mp h
  refine fhW.callv hΓ mvX12_qEndsPart ml_12_614 (t := 0) (ci := 12) (av := []) (rest := []) (r := none) (σ' := q16) (T_X12_qEndsPart (E := fhEn Γ) (d := fhD Γ - 1) (by omega) q15 hb2) (by omega) (by decide +kernel) rfl rfl rfl (Nat.le_of_ble_eq_true rfl) rfl ?_
  show fhW fhYM Γ 277 [(0, .ref 0)] [] q16
  have e9 := Option.some.inj h
  subst e9
  exact fhW.vret hΓ (by decide +kernel) hk
set_option maxRecDepth 100000 in
set_option maxHeartbeats 4000000 in
theorem L_X12_qPartTold_232 {Γ : fhX} (hΓ : fhOk fhYM 12 cX12_qPartTold 6 none Γ) (hd : 5 ≤ fhD Γ) (v2 : Int32) (s0 : Int32)  (σ : fhM) (o : fhM) (h : f_X12_qPartTold_232 v2 s0 σ = some o) (hk : (fun o => fhRet Γ none o) o) : fhW fhYM Γ 232 [(0, .ref 0), (2, .int v2)] [.int s0] σ := by
  unfold f_X12_qPartTold_232 at h
  refine fhW.blk fhPM fhLL hΓ [(.istore_n 3, 0), (.aload_n 0, 0), (.iload_n 2, 0), (.iconst (-1), -1)] (pc' := 236) (lv' := [(3, .int s0), (0, .ref 0), (2, .int v2)]) (st' := [.int (-1 : Int32), .int v2, .ref 0]) (σ' := σ) (by decide +kernel) rfl rfl rfl ?_
  refine fhW.i_eq hΓ (tgt := 246) (show fhbk _ _ (.if_icmp .eq (10)) _ = true by decide +kernel) (fun hc => ?_) (fun hc => ?_)
  · rw [if_pos hc] at h
    refine fhW.blk fhPM fhLL hΓ [(.iload_n 3, 0), (.iconst (-1), -1)] (pc' := 248) (lv' := [(3, .int s0), (0, .ref 0), (2, .int v2)]) (st' := [.int (-1 : Int32), .int s0, .ref 0]) (σ' := σ) (by decide +kernel) rfl rfl rfl ?_
    refine fhW.i_eq hΓ (tgt := 258) (show fhbk _ _ (.if_icmp .eq (10)) _ = true by decide +kernel) (fun hc => ?_) (fun hc => ?_)
    · rw [if_pos hc] at h
      refine fhW.blk fhPM fhLL hΓ [(.sipush 1000, 1000), (.aload_n 0, 0), (.iconst 0, 0), (.sipush 9999, 9999)] (pc' := 266) (lv' := [(3, .int s0), (0, .ref 0), (2, .int v2)]) (st' := [.int (9999 : Int32), .int (0 : Int32), .ref 0, .int (1000 : Int32), .ref 0]) (σ' := σ) (by decide +kernel) rfl rfl rfl ?_
      obtain ⟨q14, hb3, h⟩ := Option.bind_eq_some_iff.mp h
      refine fhW.callv hΓ mvX12_number ml_12_331 (t := 0) (ci := 12) (av := [.int (0 : Int32), .int (9999 : Int32)]) (rest := [.int (1000 : Int32), .ref 0]) (r := (some (.int q14.1))) (σ' := q14.2) (T_X12_number (E := fhEn Γ) (d := fhD Γ - 1) (by omega) (0 : Int32) (9999 : Int32) σ hb3) (by omega) (by decide +kernel) rfl rfl rfl (Nat.le_of_ble_eq_true rfl) rfl ?_
      show fhW fhYM Γ 269 [(3, .int s0), (0, .ref 0), (2, .int v2)] [.int q14.1, .int (1000 : Int32), .ref 0] q14.2
      refine fhW.blk fhPM fhLL hΓ [(.iadd, 0)] (pc' := 270) (lv' := [(3, .int s0), (0, .ref 0), (2, .int v2)]) (st' := [.int ((1000 : Int32) + q14.1), .ref 0]) (σ' := q14.2) (by decide +kernel) rfl rfl rfl ?_
      refine fhW.sub (lv' := [(0, .ref 0)]) [1] rfl ?_
      exact L_X12_qPartTold_270 hΓ hd ((1000 : Int32) + q14.1) q14.2 _ h hk
    · rw [if_neg hc] at h
      refine fhW.blk fhPM fhLL hΓ [(.bipush 52, 52), (.iload_n 3, 0), (.iadd, 0)] (pc' := 255) (lv' := [(3, .int s0), (0, .ref 0), (2, .int v2)]) (st' := [.int ((52 : Int32) + s0), .ref 0]) (σ' := σ) (by decide +kernel) rfl rfl rfl ?_
      refine fhW.goto hΓ (off := 15) (tgt := 270) (by decide +kernel) ?_
      refine fhW.sub (lv' := [(0, .ref 0)]) [1] rfl ?_
      exact L_X12_qPartTold_270 hΓ hd ((52 : Int32) + s0) σ _ h hk
  · rw [if_neg hc] at h
    refine fhW.blk fhPM fhLL hΓ [(.bipush 40, 40), (.iload_n 2, 0), (.iadd, 0)] (pc' := 243) (lv' := [(3, .int s0), (0, .ref 0), (2, .int v2)]) (st' := [.int ((40 : Int32) + v2), .ref 0]) (σ' := σ) (by decide +kernel) rfl rfl rfl ?_
    refine fhW.goto hΓ (off := 27) (tgt := 270) (by decide +kernel) ?_
    refine fhW.sub (lv' := [(0, .ref 0)]) [1] rfl ?_
    exact L_X12_qPartTold_270 hΓ hd ((40 : Int32) + v2) σ _ h hk
set_option maxRecDepth 100000 in
set_option maxHeartbeats 4000000 in
theorem L_X12_qPartTold_231 {Γ : fhX} (hΓ : fhOk fhYM 12 cX12_qPartTold 6 none Γ) (hd : 5 ≤ fhD Γ) (v2 : Int32)  (σ : fhM) (o : fhM) (h : f_X12_qPartTold_231 v2 σ = some o) (hk : (fun o => fhRet Γ none o) o) : fhW fhYM Γ 231 [(0, .ref 0), (2, .int v2)] [] σ := by
  unfold f_X12_qPartTold_231 at h
  refine fhW.blk fhPM fhLL hΓ [(.iconst (-1), -1)] (pc' := 232) (lv' := [(0, .ref 0), (2, .int v2)]) (st' := [.int (-1 : Int32)]) (σ' := σ) (by decide +kernel) rfl rfl rfl ?_
  refine fhW.sub (lv' := [(0, .ref 0), (2, .int v2)]) [0, 1] rfl ?_
  exact L_X12_qPartTold_232 hΓ hd v2 (-1 : Int32) σ _ h hk
set_option maxRecDepth 100000 in
set_option maxHeartbeats 4000000 in
theorem L_X12_qPartTold_212 {Γ : fhX} (hΓ : fhOk fhYM 12 cX12_qPartTold 6 none Γ) (hd : 5 ≤ fhD Γ) (v2 : Int32)  (σ : fhM) (o : fhM) (h : f_X12_qPartTold_212 v2 σ = some o) (hk : (fun o => fhRet Γ none o) o) : fhW fhYM Γ 212 [(0, .ref 0), (2, .int v2)] [] σ := by
  unfold f_X12_qPartTold_212 at h
  refine fhW.blk fhPM fhLL hΓ [(.iload_n 2, 0), (.iconst (-1), -1)] (pc' := 214) (lv' := [(0, .ref 0), (2, .int v2)]) (st' := [.int (-1 : Int32), .int v2]) (σ' := σ) (by decide +kernel) rfl rfl rfl ?_
  refine fhW.i_ne hΓ (tgt := 231) (show fhbk _ _ (.if_icmp .ne (17)) _ = true by decide +kernel) (fun hc => ?_) (fun hc => ?_)
  · rw [if_neg hc] at h
    refine fhW.sub (lv' := [(0, .ref 0), (2, .int v2)]) [0, 1] rfl ?_
    exact L_X12_qPartTold_231 hΓ hd v2 σ _ h hk
  · rw [if_pos hc] at h
    refine fhW.blk fhPM fhLL hΓ [(.aload_n 0, 0), (.getfield 320, 0)] (pc' := 221) (lv' := [(0, .ref 0), (2, .int v2)]) (st' := [.int (σ.1 0 48)]) (σ' := σ) (by decide +kernel) rfl rfl rfl ?_
    refine fhW.z_ne hΓ (tgt := 231) (show fhbk _ _ (.ifCond .ne (10)) _ = true by decide +kernel) (fun hc => ?_) (fun hc => ?_)
    · rw [if_neg hc] at h
      refine fhW.sub (lv' := [(0, .ref 0), (2, .int v2)]) [0, 1] rfl ?_
      exact L_X12_qPartTold_231 hΓ hd v2 σ _ h hk
    · rw [if_pos hc] at h
      refine fhW.blk fhPM fhLL hΓ [(.aload_n 0, 0)] (pc' := 225) (lv' := [(0, .ref 0), (2, .int v2)]) (st' := [.ref 0]) (σ' := σ) (by decide +kernel) rfl rfl rfl ?_
      obtain ⟨q12, hb4, h⟩ := Option.bind_eq_some_iff.mp h
      refine fhW.callv hΓ mvX12_guestHere ml_12_611 (t := 0) (ci := 12) (av := []) (rest := []) (r := (some (.int q12.1))) (σ' := q12.2) (T_X12_guestHere (E := fhEn Γ) (d := fhD Γ - 1) (by omega) σ hb4) (by omega) (by decide +kernel) rfl rfl rfl (Nat.le_of_ble_eq_true rfl) rfl ?_
      show fhW fhYM Γ 228 [(0, .ref 0), (2, .int v2)] [.int q12.1] q12.2
      refine fhW.goto hΓ (off := 4) (tgt := 232) (by decide +kernel) ?_
      refine fhW.sub (lv' := [(0, .ref 0), (2, .int v2)]) [0, 1] rfl ?_
      exact L_X12_qPartTold_232 hΓ hd v2 q12.1 q12.2 _ h hk
set_option maxRecDepth 100000 in
set_option maxHeartbeats 4000000 in
theorem L_X12_qPartTold_186 {Γ : fhX} (hΓ : fhOk fhYM 12 cX12_qPartTold 6 none Γ) (hd : 5 ≤ fhD Γ)   (σ : fhM) (o : fhM) (h : f_X12_qPartTold_186 σ = some o) (hk : (fun o => fhRet Γ none o) o) : fhW fhYM Γ 186 [(0, .ref 0)] [] σ := by
  unfold f_X12_qPartTold_186 at h
  refine fhW.blk fhPM fhLL hΓ [(.aload_n 0, 0), (.getfield 262, 0)] (pc' := 190) (lv' := [(0, .ref 0)]) (st' := [.int (σ.1 0 5)]) (σ' := σ) (by decide +kernel) rfl rfl rfl ?_
  refine fhW.z_eq hΓ (tgt := 194) (show fhbk _ _ (.ifCond .eq (4)) _ = true by decide +kernel) (fun hc => ?_) (fun hc => ?_)
  · rw [if_pos hc] at h
    refine fhW.blk fhPM fhLL hΓ [(.aload_n 0, 0), (.iconst 0, 0), (.bipush 9, 9)] (pc' := 198) (lv' := [(0, .ref 0)]) (st' := [.int (9 : Int32), .int (0 : Int32), .ref 0]) (σ' := σ) (by decide +kernel) rfl rfl rfl ?_
    obtain ⟨q8, hb5, h⟩ := Option.bind_eq_some_iff.mp h
    refine fhW.callv hΓ mvX12_qWordOf ml_12_602 (t := 0) (ci := 12) (av := [.int (0 : Int32), .int (9 : Int32)]) (rest := []) (r := (some (.int q8.1))) (σ' := q8.2) (T_X12_qWordOf (E := fhEn Γ) (d := fhD Γ - 1) (by omega) (0 : Int32) (9 : Int32) σ hb5) (by omega) (by decide +kernel) rfl rfl rfl (Nat.le_of_ble_eq_true rfl) rfl ?_
    show fhW fhYM Γ 201 [(0, .ref 0)] [.int q8.1] q8.2
    refine fhW.blk fhPM fhLL hΓ [(.istore_n 2, 0), (.iload_n 2, 0), (.iconst (-1), -1)] (pc' := 204) (lv' := [(2, .int q8.1), (0, .ref 0)]) (st' := [.int (-1 : Int32), .int q8.1]) (σ' := q8.2) (by decide +kernel) rfl rfl rfl ?_
    refine fhW.i_eq hΓ (tgt := 212) (show fhbk _ _ (.if_icmp .eq (8)) _ = true by decide +kernel) (fun hc => ?_) (fun hc => ?_)
    · rw [if_pos hc] at h
      refine fhW.sub (lv' := [(0, .ref 0), (2, .int q8.1)]) [1, 0] rfl ?_
      exact L_X12_qPartTold_212 hΓ hd q8.1 q8.2 _ h hk
    · rw [if_neg hc] at h
      refine fhW.blk fhPM fhLL hΓ [(.aload_n 0, 0), (.iload_n 2, 0)] (pc' := 209) (lv' := [(2, .int q8.1), (0, .ref 0)]) (st' := [.int q8.1, .ref 0]) (σ' := q8.2) (by decide +kernel) rfl rfl rfl ?_
      obtain ⟨q9, hb6, h⟩ := Option.bind_eq_some_iff.mp h
      refine fhW.callv hΓ mvX12_qAsksWord ml_12_608 (t := 0) (ci := 12) (av := [.int q8.1]) (rest := []) (r := none) (σ' := q9) (T_X12_qAsksWord (E := fhEn Γ) (d := fhD Γ - 1) (by omega) q8.1 q8.2 hb6) (by omega) (by decide +kernel) rfl rfl rfl (Nat.le_of_ble_eq_true rfl) rfl ?_
      show fhW fhYM Γ 212 [(2, .int q8.1), (0, .ref 0)] [] q9
      refine fhW.sub (lv' := [(0, .ref 0), (2, .int q8.1)]) [1, 0] rfl ?_
      exact L_X12_qPartTold_212 hΓ hd q8.1 q9 _ h hk
  · rw [if_neg hc] at h
    have e9 := Option.some.inj h
    subst e9
    exact fhW.vret hΓ (by decide +kernel) hk
set_option maxRecDepth 100000 in
set_option maxHeartbeats 4000000 in
theorem L_X12_qPartTold_183 {Γ : fhX} (hΓ : fhOk fhYM 12 cX12_qPartTold 6 none Γ) (hd : 5 ≤ fhD Γ) (v1 : Int32)  (σ : fhM) (o : (Int32 × fhM) ⊕ (fhM)) (h : f_X12_qPartTold_183 v1 σ = some o) (hk : (fhK (fun x => fhW fhYM Γ 2 [(0, .ref 0), (1, .int x.1)] [] x.2) (fun o => fhRet Γ none o)) o) : fhW fhYM Γ 183 [(0, .ref 0), (1, .int v1)] [] σ := by
  unfold f_X12_qPartTold_183 at h
  refine fhW.goto hΓ (off := (-181)) (tgt := 2) (by decide +kernel) ?_
  refine fhW.sub (lv' := [(0, .ref 0), (1, .int v1)]) [0, 1] rfl ?_
  have e9 := Option.some.inj h
  subst e9
  exact hk
set_option maxRecDepth 100000 in
set_option maxHeartbeats 4000000 in
theorem L_X12_qPartTold_144 {Γ : fhX} (hΓ : fhOk fhYM 12 cX12_qPartTold 6 none Γ) (hd : 5 ≤ fhD Γ) (v1 : Int32)  (σ : fhM) (o : (Int32 × fhM) ⊕ (fhM)) (h : f_X12_qPartTold_144 v1 σ = some o) (hk : (fhK (fun x => fhW fhYM Γ 2 [(0, .ref 0), (1, .int x.1)] [] x.2) (fun o => fhRet Γ none o)) o) : fhW fhYM Γ 144 [(0, .ref 0), (1, .int v1)] [] σ := by
  unfold f_X12_qPartTold_144 at h
  refine fhW.blk fhPM fhLL hΓ [(.aload_n 0, 0), (.bipush 40, 40)] (pc' := 147) (lv' := [(0, .ref 0), (1, .int v1)]) (st' := [.int (40 : Int32), .ref 0]) (σ' := σ) (by decide +kernel) rfl rfl rfl ?_
  obtain ⟨q17, hb7, h⟩ := Option.bind_eq_some_iff.mp h
  refine fhW.callv hΓ mvX12_asksSign ml_12_335 (t := 0) (ci := 12) (av := [.int (40 : Int32)]) (rest := []) (r := none) (σ' := q17) (T_X12_asksSign (E := fhEn Γ) (d := fhD Γ - 1) (by omega) (40 : Int32) σ hb7) (by omega) (by decide +kernel) rfl rfl rfl (Nat.le_of_ble_eq_true rfl) rfl ?_
  show fhW fhYM Γ 150 [(0, .ref 0), (1, .int v1)] [] q17
  refine fhW.goto hΓ (off := 33) (tgt := 183) (by decide +kernel) ?_
  refine fhW.sub (lv' := [(0, .ref 0), (1, .int v1)]) [0, 1] rfl ?_
  exact L_X12_qPartTold_183 hΓ hd v1 q17 _ h hk
set_option maxRecDepth 100000 in
set_option maxHeartbeats 4000000 in
theorem L_X12_qPartTold_139 {Γ : fhX} (hΓ : fhOk fhYM 12 cX12_qPartTold 6 none Γ) (hd : 5 ≤ fhD Γ) (v1 : Int32) (v5 : Int32) (s0 : Int32)  (σ : fhM) (o : (Int32 × fhM) ⊕ (fhM)) (h : f_X12_qPartTold_139 v1 v5 s0 σ = some o) (hk : (fhK (fun x => fhW fhYM Γ 2 [(0, .ref 0), (1, .int x.1)] [] x.2) (fun o => fhRet Γ none o)) o) : fhW fhYM Γ 139 [(0, .ref 0), (1, .int v1), (5, .int v5)] [.int s0, .ref 0] σ := by
  unfold f_X12_qPartTold_139 at h
  refine fhW.blk fhPM fhLL hΓ [(.iload 5, 0)] (pc' := 141) (lv' := [(0, .ref 0), (1, .int v1), (5, .int v5)]) (st' := [.int v5, .int s0, .ref 0]) (σ' := σ) (by decide +kernel) rfl rfl rfl ?_
  obtain ⟨q18, hb8, h⟩ := Option.bind_eq_some_iff.mp h
  refine fhW.callv hΓ mvX12_qOpens ml_12_605 (t := 0) (ci := 12) (av := [.int s0, .int v5]) (rest := []) (r := none) (σ' := q18) (T_X12_qOpens (E := fhEn Γ) (d := fhD Γ - 1) (by omega) s0 v5 σ hb8) (by omega) (by decide +kernel) rfl rfl rfl (Nat.le_of_ble_eq_true rfl) rfl ?_
  show fhW fhYM Γ 144 [(0, .ref 0), (1, .int v1), (5, .int v5)] [] q18
  refine fhW.sub (lv' := [(0, .ref 0), (1, .int v1)]) [0, 1] rfl ?_
  exact L_X12_qPartTold_144 hΓ hd v1 q18 _ h hk
set_option maxRecDepth 100000 in
set_option maxHeartbeats 4000000 in
theorem L_X12_qPartTold_118 {Γ : fhX} (hΓ : fhOk fhYM 12 cX12_qPartTold 6 none Γ) (hd : 5 ≤ fhD Γ) (v1 : Int32) (v4 : Int32) (s0 : Int32)  (σ : fhM) (o : (Int32 × fhM) ⊕ (fhM)) (h : f_X12_qPartTold_118 v1 v4 s0 σ = some o) (hk : (fhK (fun x => fhW fhYM Γ 2 [(0, .ref 0), (1, .int x.1)] [] x.2) (fun o => fhRet Γ none o)) o) : fhW fhYM Γ 118 [(0, .ref 0), (1, .int v1), (4, .int v4)] [.int s0] σ := by
  unfold f_X12_qPartTold_118 at h
  refine fhW.blk fhPM fhLL hΓ [(.istore 5, 0), (.iload 5, 0), (.iconst (-1), -1)] (pc' := 123) (lv' := [(5, .int s0), (0, .ref 0), (1, .int v1), (4, .int v4)]) (st' := [.int (-1 : Int32), .int s0]) (σ' := σ) (by decide +kernel) rfl rfl rfl ?_
  refine fhW.i_eq hΓ (tgt := 144) (show fhbk _ _ (.if_icmp .eq (21)) _ = true by decide +kernel) (fun hc => ?_) (fun hc => ?_)
  · rw [if_pos hc] at h
    refine fhW.sub (lv' := [(0, .ref 0), (1, .int v1)]) [1, 2] rfl ?_
    exact L_X12_qPartTold_144 hΓ hd v1 σ _ h hk
  · rw [if_neg hc] at h
    refine fhW.blk fhPM fhLL hΓ [(.aload_n 0, 0), (.iload 4, 0)] (pc' := 129) (lv' := [(5, .int s0), (0, .ref 0), (1, .int v1), (4, .int v4)]) (st' := [.int v4, .ref 0]) (σ' := σ) (by decide +kernel) rfl rfl rfl ?_
    refine fhW.z_eq hΓ (tgt := 137) (show fhbk _ _ (.ifCond .eq (8)) _ = true by decide +kernel) (fun hc => ?_) (fun hc => ?_)
    · simp only [if_pos hc] at h
      refine fhW.blk fhPM fhLL hΓ [(.bipush 22, 22)] (pc' := 139) (lv' := [(5, .int s0), (0, .ref 0), (1, .int v1), (4, .int v4)]) (st' := [.int (22 : Int32), .ref 0]) (σ' := σ) (by decide +kernel) rfl rfl rfl ?_
      refine fhW.sub (lv' := [(0, .ref 0), (1, .int v1), (5, .int s0)]) [1, 2, 0] rfl ?_
      exact L_X12_qPartTold_139 hΓ hd v1 s0 (22 : Int32) σ _ h hk
    · simp only [if_neg hc] at h
      refine fhW.blk fhPM fhLL hΓ [(.bipush 21, 21)] (pc' := 134) (lv' := [(5, .int s0), (0, .ref 0), (1, .int v1), (4, .int v4)]) (st' := [.int (21 : Int32), .ref 0]) (σ' := σ) (by decide +kernel) rfl rfl rfl ?_
      refine fhW.goto hΓ (off := 5) (tgt := 139) (by decide +kernel) ?_
      refine fhW.sub (lv' := [(0, .ref 0), (1, .int v1), (5, .int s0)]) [1, 2, 0] rfl ?_
      exact L_X12_qPartTold_139 hΓ hd v1 s0 (21 : Int32) σ _ h hk
set_option maxRecDepth 100000 in
set_option maxHeartbeats 4000000 in
theorem L_X12_qPartTold_101 {Γ : fhX} (hΓ : fhOk fhYM 12 cX12_qPartTold 6 none Γ) (hd : 5 ≤ fhD Γ) (v1 : Int32) (v4 : Int32)  (σ : fhM) (o : (Int32 × fhM) ⊕ (fhM)) (h : f_X12_qPartTold_101 v1 v4 σ = some o) (hk : (fhK (fun x => fhW fhYM Γ 2 [(0, .ref 0), (1, .int x.1)] [] x.2) (fun o => fhRet Γ none o)) o) : fhW fhYM Γ 101 [(0, .ref 0), (1, .int v1), (4, .int v4)] [] σ := by
  unfold f_X12_qPartTold_101 at h
  refine fhW.blk fhPM fhLL hΓ [(.aload_n 0, 0)] (pc' := 102) (lv' := [(0, .ref 0), (1, .int v1), (4, .int v4)]) (st' := [.ref 0]) (σ' := σ) (by decide +kernel) rfl rfl rfl ?_
  obtain ⟨q13, hb9, h⟩ := Option.bind_eq_some_iff.mp h
  refine fhW.callv hΓ mvX12_look ml_12_274 (t := 0) (ci := 12) (av := []) (rest := []) (r := (some (.int q13.1))) (σ' := q13.2) (T_X12_look (E := fhEn Γ) (d := fhD Γ - 1) (by omega) σ hb9) (by omega) (by decide +kernel) rfl rfl rfl (Nat.le_of_ble_eq_true rfl) rfl ?_
  show fhW fhYM Γ 105 [(0, .ref 0), (1, .int v1), (4, .int v4)] [.int q13.1] q13.2
  refine fhW.blk fhPM fhLL hΓ [(.bipush 40, 40)] (pc' := 107) (lv' := [(0, .ref 0), (1, .int v1), (4, .int v4)]) (st' := [.int (40 : Int32), .int q13.1]) (σ' := q13.2) (by decide +kernel) rfl rfl rfl ?_
  refine fhW.i_ne hΓ (tgt := 117) (show fhbk _ _ (.if_icmp .ne (10)) _ = true by decide +kernel) (fun hc => ?_) (fun hc => ?_)
  · simp only [if_neg hc] at h
    refine fhW.blk fhPM fhLL hΓ [(.iconst (-1), -1)] (pc' := 118) (lv' := [(0, .ref 0), (1, .int v1), (4, .int v4)]) (st' := [.int (-1 : Int32)]) (σ' := q13.2) (by decide +kernel) rfl rfl rfl ?_
    refine fhW.sub (lv' := [(0, .ref 0), (1, .int v1), (4, .int v4)]) [0, 1, 2] rfl ?_
    exact L_X12_qPartTold_118 hΓ hd v1 v4 (-1 : Int32) q13.2 _ h hk
  · simp only [if_pos hc] at h
    refine fhW.blk fhPM fhLL hΓ [(.aload_n 0, 0), (.getfield 268, 0)] (pc' := 114) (lv' := [(0, .ref 0), (1, .int v1), (4, .int v4)]) (st' := [.int (q13.2.1 0 2)]) (σ' := q13.2) (by decide +kernel) rfl rfl rfl ?_
    refine fhW.goto hΓ (off := 4) (tgt := 118) (by decide +kernel) ?_
    refine fhW.sub (lv' := [(0, .ref 0), (1, .int v1), (4, .int v4)]) [0, 1, 2] rfl ?_
    exact L_X12_qPartTold_118 hΓ hd v1 v4 (q13.2.1 0 2) q13.2 _ h hk
set_option maxRecDepth 100000 in
set_option maxHeartbeats 4000000 in
theorem L_X12_qPartTold_78 {Γ : fhX} (hΓ : fhOk fhYM 12 cX12_qPartTold 6 none Γ) (hd : 5 ≤ fhD Γ) (v1 : Int32)  (σ : fhM) (o : (Int32 × fhM) ⊕ (fhM)) (h : f_X12_qPartTold_78 v1 σ = some o) (hk : (fhK (fun x => fhW fhYM Γ 2 [(0, .ref 0), (1, .int x.1)] [] x.2) (fun o => fhRet Γ none o)) o) : fhW fhYM Γ 78 [(0, .ref 0), (1, .int v1)] [] σ := by
  unfold f_X12_qPartTold_78 at h
  refine fhW.blk fhPM fhLL hΓ [(.aload_n 0, 0), (.aload_n 0, 0), (.getfield 205, 0)] (pc' := 83) (lv' := [(0, .ref 0), (1, .int v1)]) (st' := [.ref 62, .ref 0]) (σ' := σ) (by decide +kernel) rfl rfl rfl ?_
  obtain ⟨q10, hb10, h⟩ := Option.bind_eq_some_iff.mp h
  refine fhW.callv hΓ mvX12_takes ml_12_289 (t := 0) (ci := 12) (av := [.ref 62]) (rest := []) (r := (some (.int (fhb q10.1)))) (σ' := q10.2) (T_X12_takes (E := fhEn Γ) (d := fhD Γ - 1) (by omega) 62 rfl σ hb10) (by omega) (by decide +kernel) rfl rfl rfl (Nat.le_of_ble_eq_true rfl) rfl ?_
  show fhW fhYM Γ 86 [(0, .ref 0), (1, .int v1)] [.int (fhb q10.1)] q10.2
  refine fhW.blk fhPM fhLL hΓ [(.istore 4, 0), (.iload 4, 0)] (pc' := 90) (lv' := [(4, .int (fhb q10.1)), (0, .ref 0), (1, .int v1)]) (st' := [.int (fhb q10.1)]) (σ' := q10.2) (by decide +kernel) rfl rfl rfl ?_
  refine fhW.b_ne hΓ (tgt := 101) (show fhbk _ _ (.ifCond .ne (11)) _ = true by decide +kernel) (fun hc => ?_) (fun hc => ?_)
  · rw [if_pos hc] at h
    refine fhW.sub (lv' := [(0, .ref 0), (1, .int v1), (4, .int (fhb q10.1))]) [1, 2, 0] rfl ?_
    exact L_X12_qPartTold_101 hΓ hd v1 (fhb q10.1) q10.2 _ h hk
  · rw [if_neg hc] at h
    refine fhW.blk fhPM fhLL hΓ [(.aload_n 0, 0), (.aload_n 0, 0), (.getfield 208, 0)] (pc' := 98) (lv' := [(4, .int (fhb q10.1)), (0, .ref 0), (1, .int v1)]) (st' := [.ref 63, .ref 0]) (σ' := q10.2) (by decide +kernel) rfl rfl rfl ?_
    obtain ⟨q11, hb11, h⟩ := Option.bind_eq_some_iff.mp h
    refine fhW.callv hΓ mvX12_asks ml_12_327 (t := 0) (ci := 12) (av := [.ref 63]) (rest := []) (r := none) (σ' := q11) (T_X12_asks (E := fhEn Γ) (d := fhD Γ - 1) (by omega) 63 rfl q10.2 hb11) (by omega) (by decide +kernel) rfl rfl rfl (Nat.le_of_ble_eq_true rfl) rfl ?_
    show fhW fhYM Γ 101 [(4, .int (fhb q10.1)), (0, .ref 0), (1, .int v1)] [] q11
    refine fhW.sub (lv' := [(0, .ref 0), (1, .int v1), (4, .int (fhb q10.1))]) [1, 2, 0] rfl ?_
    exact L_X12_qPartTold_101 hΓ hd v1 (fhb q10.1) q11 _ h hk
set_option maxRecDepth 100000 in
set_option maxHeartbeats 4000000 in
theorem L_X12_qPartTold_2 {Γ : fhX} (hΓ : fhOk fhYM 12 cX12_qPartTold 6 none Γ) (hd : 5 ≤ fhD Γ) (v1 : Int32)  (σ : fhM) (o : (Int32 × fhM) ⊕ (fhM)) (h : f_X12_qPartTold_2 v1 σ = some o) (hk : (fhK (fun x => fhW fhYM Γ 2 [(0, .ref 0), (1, .int x.1)] [] x.2) (fun o => fhRet Γ none o)) o) : fhW fhYM Γ 2 [(0, .ref 0), (1, .int v1)] [] σ := by
  unfold f_X12_qPartTold_2 at h
  refine fhW.blk fhPM fhLL hΓ [(.iload_n 1, 0)] (pc' := 3) (lv' := [(0, .ref 0), (1, .int v1)]) (st' := [.int v1]) (σ' := σ) (by decide +kernel) rfl rfl rfl ?_
  refine fhW.z_eq hΓ (tgt := 186) (show fhbk _ _ (.ifCond .eq (183)) _ = true by decide +kernel) (fun hc => ?_) (fun hc => ?_)
  · rw [if_pos hc] at h
    refine fhW.sub (lv' := [(0, .ref 0)]) [0] rfl ?_
    obtain ⟨z1, hz, e1⟩ := Option.map_eq_some_iff.mp h
    clear h
    subst e1
    have h := hz
    have hk : (fun o => fhRet Γ none o) z1 := hk
    exact L_X12_qPartTold_186 hΓ hd σ _ h hk
  · rw [if_neg hc] at h
    refine fhW.blk fhPM fhLL hΓ [(.aload_n 0, 0), (.getfield 262, 0)] (pc' := 10) (lv' := [(0, .ref 0), (1, .int v1)]) (st' := [.int (σ.1 0 5)]) (σ' := σ) (by decide +kernel) rfl rfl rfl ?_
    refine fhW.z_ne hΓ (tgt := 186) (show fhbk _ _ (.ifCond .ne (176)) _ = true by decide +kernel) (fun hc => ?_) (fun hc => ?_)
    · rw [if_neg hc] at h
      refine fhW.sub (lv' := [(0, .ref 0)]) [0] rfl ?_
      obtain ⟨z2, hz, e2⟩ := Option.map_eq_some_iff.mp h
      clear h
      subst e2
      have h := hz
      have hk : (fun o => fhRet Γ none o) z2 := hk
      exact L_X12_qPartTold_186 hΓ hd σ _ h hk
    · rw [if_pos hc] at h
      refine fhW.blk fhPM fhLL hΓ [(.aload_n 0, 0)] (pc' := 14) (lv' := [(0, .ref 0), (1, .int v1)]) (st' := [.ref 0]) (σ' := σ) (by decide +kernel) rfl rfl rfl ?_
      obtain ⟨q1, hb12, h⟩ := Option.bind_eq_some_iff.mp h
      refine fhW.callv hΓ mvX12_look ml_12_274 (t := 0) (ci := 12) (av := []) (rest := []) (r := (some (.int q1.1))) (σ' := q1.2) (T_X12_look (E := fhEn Γ) (d := fhD Γ - 1) (by omega) σ hb12) (by omega) (by decide +kernel) rfl rfl rfl (Nat.le_of_ble_eq_true rfl) rfl ?_
      show fhW fhYM Γ 17 [(0, .ref 0), (1, .int v1)] [.int q1.1] q1.2
      refine fhW.blk fhPM fhLL hΓ [(.istore_n 2, 0), (.aload_n 0, 0), (.bipush 9, 9), (.bipush 12, 12)] (pc' := 23) (lv' := [(2, .int q1.1), (0, .ref 0), (1, .int v1)]) (st' := [.int (12 : Int32), .int (9 : Int32), .ref 0]) (σ' := q1.2) (by decide +kernel) rfl rfl rfl ?_
      obtain ⟨q2, hb13, h⟩ := Option.bind_eq_some_iff.mp h
      refine fhW.callv hΓ mvX12_qWordOf ml_12_602 (t := 0) (ci := 12) (av := [.int (9 : Int32), .int (12 : Int32)]) (rest := []) (r := (some (.int q2.1))) (σ' := q2.2) (T_X12_qWordOf (E := fhEn Γ) (d := fhD Γ - 1) (by omega) (9 : Int32) (12 : Int32) q1.2 hb13) (by omega) (by decide +kernel) rfl rfl rfl (Nat.le_of_ble_eq_true rfl) rfl ?_
      show fhW fhYM Γ 26 [(2, .int q1.1), (0, .ref 0), (1, .int v1)] [.int q2.1] q2.2
      refine fhW.blk fhPM fhLL hΓ [(.istore_n 3, 0), (.iload_n 2, 0), (.bipush 40, 40)] (pc' := 30) (lv' := [(3, .int q2.1), (2, .int q1.1), (0, .ref 0), (1, .int v1)]) (st' := [.int (40 : Int32), .int q1.1]) (σ' := q2.2) (by decide +kernel) rfl rfl rfl ?_
      refine fhW.i_ne hΓ (tgt := 56) (show fhbk _ _ (.if_icmp .ne (26)) _ = true by decide +kernel) (fun hc => ?_) (fun hc => ?_)
      · rw [if_neg hc] at h
        refine fhW.blk fhPM fhLL hΓ [(.aload_n 0, 0), (.aload_n 0, 0), (.getfield 205, 0)] (pc' := 61) (lv' := [(3, .int q2.1), (2, .int q1.1), (0, .ref 0), (1, .int v1)]) (st' := [.ref 62, .ref 0]) (σ' := q2.2) (by decide +kernel) rfl rfl rfl ?_
        obtain ⟨q3, hb14, h⟩ := Option.bind_eq_some_iff.mp h
        refine fhW.callv hΓ mvX12_isHere ml_12_285 (t := 0) (ci := 12) (av := [.ref 62]) (rest := []) (r := (some (.int (fhb q3.1)))) (σ' := q3.2) (T_X12_isHere (E := fhEn Γ) (d := fhD Γ - 1) (by omega) 62 rfl q2.2 hb14) (by omega) (by decide +kernel) rfl rfl rfl (Nat.le_of_ble_eq_true rfl) rfl ?_
        show fhW fhYM Γ 64 [(3, .int q2.1), (2, .int q1.1), (0, .ref 0), (1, .int v1)] [.int (fhb q3.1)] q3.2
        refine fhW.b_ne hΓ (tgt := 78) (show fhbk _ _ (.ifCond .ne (14)) _ = true by decide +kernel) (fun hc => ?_) (fun hc => ?_)
        · rw [if_pos hc] at h
          refine fhW.sub (lv' := [(0, .ref 0), (1, .int v1)]) [2, 3] rfl ?_
          exact L_X12_qPartTold_78 hΓ hd v1 q3.2 _ h hk
        · rw [if_neg hc] at h
          refine fhW.blk fhPM fhLL hΓ [(.aload_n 0, 0), (.aload_n 0, 0), (.getfield 208, 0)] (pc' := 72) (lv' := [(3, .int q2.1), (2, .int q1.1), (0, .ref 0), (1, .int v1)]) (st' := [.ref 63, .ref 0]) (σ' := q3.2) (by decide +kernel) rfl rfl rfl ?_
          obtain ⟨q4, hb15, h⟩ := Option.bind_eq_some_iff.mp h
          refine fhW.callv hΓ mvX12_isHere ml_12_285 (t := 0) (ci := 12) (av := [.ref 63]) (rest := []) (r := (some (.int (fhb q4.1)))) (σ' := q4.2) (T_X12_isHere (E := fhEn Γ) (d := fhD Γ - 1) (by omega) 63 rfl q3.2 hb15) (by omega) (by decide +kernel) rfl rfl rfl (Nat.le_of_ble_eq_true rfl) rfl ?_
          show fhW fhYM Γ 75 [(3, .int q2.1), (2, .int q1.1), (0, .ref 0), (1, .int v1)] [.int (fhb q4.1)] q4.2
          refine fhW.b_eq hΓ (tgt := 153) (show fhbk _ _ (.ifCond .eq (78)) _ = true by decide +kernel) (fun hc => ?_) (fun hc => ?_)
          · rw [if_neg hc] at h
            refine fhW.blk fhPM fhLL hΓ [(.iload_n 3, 0), (.iconst (-1), -1)] (pc' := 155) (lv' := [(3, .int q2.1), (2, .int q1.1), (0, .ref 0), (1, .int v1)]) (st' := [.int (-1 : Int32), .int q2.1]) (σ' := q4.2) (by decide +kernel) rfl rfl rfl ?_
            refine fhW.i_eq hΓ (tgt := 181) (show fhbk _ _ (.if_icmp .eq (26)) _ = true by decide +kernel) (fun hc => ?_) (fun hc => ?_)
            · rw [if_pos hc] at h
              refine fhW.blk fhPM fhLL hΓ [(.iconst 0, 0), (.istore_n 1, 0)] (pc' := 183) (lv' := [(1, .int (0 : Int32)), (3, .int q2.1), (2, .int q1.1), (0, .ref 0)]) (st' := []) (σ' := q4.2) (by decide +kernel) rfl rfl rfl ?_
              refine fhW.sub (lv' := [(0, .ref 0), (1, .int (0 : Int32))]) [3, 0] rfl ?_
              exact L_X12_qPartTold_183 hΓ hd (0 : Int32) q4.2 _ h hk
            · rw [if_neg hc] at h
              refine fhW.blk fhPM fhLL hΓ [(.aload_n 0, 0), (.bipush 60, 60), (.iload_n 3, 0), (.iadd, 0), (.bipush 9, 9), (.isub, 0), (.aload_n 0, 0), (.getfield 268, 0)] (pc' := 170) (lv' := [(3, .int q2.1), (2, .int q1.1), (0, .ref 0), (1, .int v1)]) (st' := [.int (q4.2.1 0 2), .int (((60 : Int32) + q2.1) - (9 : Int32)), .ref 0]) (σ' := q4.2) (by decide +kernel) rfl rfl rfl ?_
              obtain ⟨q5, hb16, h⟩ := Option.bind_eq_some_iff.mp h
              refine fhW.callv hΓ mvX12_qOpens ml_12_605 (t := 0) (ci := 12) (av := [.int (((60 : Int32) + q2.1) - (9 : Int32)), .int (q4.2.1 0 2)]) (rest := []) (r := none) (σ' := q5) (T_X12_qOpens (E := fhEn Γ) (d := fhD Γ - 1) (by omega) (((60 : Int32) + q2.1) - (9 : Int32)) (q4.2.1 0 2) q4.2 hb16) (by omega) (by decide +kernel) rfl rfl rfl (Nat.le_of_ble_eq_true rfl) rfl ?_
              show fhW fhYM Γ 173 [(3, .int q2.1), (2, .int q1.1), (0, .ref 0), (1, .int v1)] [] q5
              refine fhW.blk fhPM fhLL hΓ [(.aload_n 0, 0), (.iload_n 3, 0)] (pc' := 175) (lv' := [(3, .int q2.1), (2, .int q1.1), (0, .ref 0), (1, .int v1)]) (st' := [.int q2.1, .ref 0]) (σ' := q5) (by decide +kernel) rfl rfl rfl ?_
              obtain ⟨q6, hb17, h⟩ := Option.bind_eq_some_iff.mp h
              refine fhW.callv hΓ mvX12_qAsksWord ml_12_608 (t := 0) (ci := 12) (av := [.int q2.1]) (rest := []) (r := none) (σ' := q6) (T_X12_qAsksWord (E := fhEn Γ) (d := fhD Γ - 1) (by omega) q2.1 q5 hb17) (by omega) (by decide +kernel) rfl rfl rfl (Nat.le_of_ble_eq_true rfl) rfl ?_
              show fhW fhYM Γ 178 [(3, .int q2.1), (2, .int q1.1), (0, .ref 0), (1, .int v1)] [] q6
              refine fhW.goto hΓ (off := 5) (tgt := 183) (by decide +kernel) ?_
              refine fhW.sub (lv' := [(0, .ref 0), (1, .int v1)]) [2, 3] rfl ?_
              exact L_X12_qPartTold_183 hΓ hd v1 q6 _ h hk
          · rw [if_pos hc] at h
            refine fhW.sub (lv' := [(0, .ref 0), (1, .int v1)]) [2, 3] rfl ?_
            exact L_X12_qPartTold_78 hΓ hd v1 q4.2 _ h hk
      · rw [if_pos hc] at h
        refine fhW.blk fhPM fhLL hΓ [(.aload_n 0, 0), (.bipush 20, 20), (.aload_n 0, 0), (.getfield 268, 0)] (pc' := 40) (lv' := [(3, .int q2.1), (2, .int q1.1), (0, .ref 0), (1, .int v1)]) (st' := [.int (q2.2.1 0 2), .int (20 : Int32), .ref 0]) (σ' := q2.2) (by decide +kernel) rfl rfl rfl ?_
        obtain ⟨q7, hb18, h⟩ := Option.bind_eq_some_iff.mp h
        refine fhW.callv hΓ mvX12_qOpens ml_12_605 (t := 0) (ci := 12) (av := [.int (20 : Int32), .int (q2.2.1 0 2)]) (rest := []) (r := none) (σ' := q7) (T_X12_qOpens (E := fhEn Γ) (d := fhD Γ - 1) (by omega) (20 : Int32) (q2.2.1 0 2) q2.2 hb18) (by omega) (by decide +kernel) rfl rfl rfl (Nat.le_of_ble_eq_true rfl) rfl ?_
        show fhW fhYM Γ 43 [(3, .int q2.1), (2, .int q1.1), (0, .ref 0), (1, .int v1)] [] q7
        refine fhW.blk fhPM fhLL hΓ [(.aload_n 0, 0), (.dup, 0), (.getfield 268, 0), (.iconst 1, 1), (.iadd, 0), (.putfield 268, 0)] (pc' := 53) (lv' := [(3, .int q2.1), (2, .int q1.1), (0, .ref 0), (1, .int v1)]) (st' := []) (σ' := (fhI q7 0 2 ((q7.1 0 2) + (1 : Int32)))) (by decide +kernel) rfl rfl rfl ?_
        refine fhW.goto hΓ (off := 130) (tgt := 183) (by decide +kernel) ?_
        refine fhW.sub (lv' := [(0, .ref 0), (1, .int v1)]) [2, 3] rfl ?_
        exact L_X12_qPartTold_183 hΓ hd v1 (fhI q7 0 2 ((q7.1 0 2) + (1 : Int32))) _ h hk
set_option maxRecDepth 100000 in
set_option maxHeartbeats 4000000 in
theorem L_X12_qPartTold_E {Γ : fhX} (hΓ : fhOk fhYM 12 cX12_qPartTold 6 none Γ) (hd : 5 ≤ fhD Γ)   (σ : fhM) (o : fhM) (h : f_X12_qPartTold σ = some o) (hk : (fun o => fhRet Γ none o) o) : fhW fhYM Γ 0 [(0, .ref 0)] [] σ := by
  unfold f_X12_qPartTold at h
  refine fhW.blk fhPM fhLL hΓ [(.iconst 1, 1), (.istore_n 1, 0)] (pc' := 2) (lv' := [(1, .int (1 : Int32)), (0, .ref 0)]) (st' := []) (σ' := σ) (by decide +kernel) rfl rfl rfl ?_
  refine fhW.sub (lv' := [(0, .ref 0), (1, .int (1 : Int32))]) [1, 0] rfl ?_
  exact fhlp_ok (W := (fun x => fhW fhYM Γ 2 [(0, .ref 0), (1, .int x.1)] [] x.2)) (B := (fun o => fhRet Γ none o)) (fun x o h hk => L_X12_qPartTold_2 hΓ hd x.1 x.2 o h hk) ((1 : Int32), σ) _ h hk
set_option maxRecDepth 100000 in
theorem T_X12_qPartTold {E : fhE} {d : Nat} (hd : 5 ≤ d)   (σ : fhM) {o : fhM} (h : f_X12_qPartTold σ = some o) : fhC fhYM E d miX12_qPartTold [.ref 0] σ none o := by
  refine fhC.of (y := yX12_qPartTold) (cc := cX12_qPartTold) (nL := 6) (ret := none) 12 rfl (by decide +kernel) (Nat.le_of_ble_eq_true rfl) ?_
  intro Γ hΓ hR hD hEn
  subst hD; subst hEn
  exact L_X12_qPartTold_E hΓ hd   σ _ h hR
set_option maxRecDepth 100000 in
set_option maxHeartbeats 4000000 in
theorem L_X12_qIsBracket_E {Γ : fhX} (hΓ : fhOk fhYM 12 cX12_qIsBracket 1 (some .boolean) Γ) (hd : 0 ≤ fhD Γ) (v0 : Int32)  (σ : fhM) (o : Bool) (h : f_X12_qIsBracket v0 σ = o) (hk : (fun o => fhRet Γ (some (.int (fhb o))) σ) o) : fhW fhYM Γ 0 [(0, .int v0)] [] σ := by
  unfold f_X12_qIsBracket at h
  refine fhW.blk fhPM fhLL hΓ [(.iload_n 0, 0), (.bipush 20, 20)] (pc' := 3) (lv' := [(0, .int v0)]) (st' := [.int (20 : Int32), .int v0]) (σ' := σ) (by decide +kernel) rfl rfl rfl ?_
  refine fhW.i_lt hΓ (tgt := 16) (show fhbk _ _ (.if_icmp .lt (13)) _ = true by decide +kernel) (fun hc => ?_) (fun hc => ?_)
  · rw [if_pos hc] at h
    refine fhW.blk fhPM fhLL hΓ [(.iconst 0, 0)] (pc' := 17) (lv' := [(0, .int v0)]) (st' := [.int (0 : Int32)]) (σ' := σ) (by decide +kernel) rfl rfl rfl ?_
    subst h
    exact fhW.zret (v := false) hΓ (by decide +kernel) hk
  · rw [if_neg hc] at h
    refine fhW.blk fhPM fhLL hΓ [(.iload_n 0, 0), (.bipush 24, 24)] (pc' := 9) (lv' := [(0, .int v0)]) (st' := [.int (24 : Int32), .int v0]) (σ' := σ) (by decide +kernel) rfl rfl rfl ?_
    refine fhW.i_gt hΓ (tgt := 16) (show fhbk _ _ (.if_icmp .gt (7)) _ = true by decide +kernel) (fun hc => ?_) (fun hc => ?_)
    · rw [if_pos hc] at h
      refine fhW.blk fhPM fhLL hΓ [(.iconst 0, 0)] (pc' := 17) (lv' := [(0, .int v0)]) (st' := [.int (0 : Int32)]) (σ' := σ) (by decide +kernel) rfl rfl rfl ?_
      subst h
      exact fhW.zret (v := false) hΓ (by decide +kernel) hk
    · rw [if_neg hc] at h
      refine fhW.blk fhPM fhLL hΓ [(.iconst 1, 1)] (pc' := 13) (lv' := [(0, .int v0)]) (st' := [.int (1 : Int32)]) (σ' := σ) (by decide +kernel) rfl rfl rfl ?_
      refine fhW.goto hΓ (off := 4) (tgt := 17) (by decide +kernel) ?_
      subst h
      exact fhW.zret (v := true) hΓ (by decide +kernel) hk
set_option maxRecDepth 100000 in
theorem T_X12_qIsBracket {E : fhE} {d : Nat} (hd : 0 ≤ d) (v0 : Int32)  (σ : fhM) : fhC fhYM E d miX12_qIsBracket [.int v0] σ (some (.int (fhb (f_X12_qIsBracket v0 σ)))) σ := by
  refine fhC.of (y := yX12_qIsBracket) (cc := cX12_qIsBracket) (nL := 1) (ret := (some .boolean)) 12 rfl (by decide +kernel) (Nat.le_of_ble_eq_true rfl) ?_
  intro Γ hΓ hR hD hEn
  subst hD; subst hEn
  exact L_X12_qIsBracket_E hΓ hd v0  σ _ rfl hR
set_option maxRecDepth 100000 in
set_option maxHeartbeats 4000000 in
theorem L_X12_qBracket_33 {Γ : fhX} (hΓ : fhOk fhYM 12 cX12_qBracket 2 (some .int) Γ) (hd : 1 ≤ fhD Γ) (v1 : Int32)  (σ : fhM) (o : Int32) (h : f_X12_qBracket_33 v1 σ = some o) (hk : (fun o => fhRet Γ (some (.int o)) σ) o) : fhW fhYM Γ 33 [(0, .ref 0), (1, .int v1)] [] σ := by
  unfold f_X12_qBracket_33 at h
  refine fhW.blk fhPM fhLL hΓ [(.iload_n 1, 0), (.aload_n 0, 0), (.getfield 359, 0)] (pc' := 38) (lv' := [(0, .ref 0), (1, .int v1)]) (st' := [.int (σ.1 0 103), .int v1]) (σ' := σ) (by decide +kernel) rfl rfl rfl ?_
  refine fhW.i_lt hΓ (tgt := 50) (show fhbk _ _ (.if_icmp .lt (12)) _ = true by decide +kernel) (fun hc => ?_) (fun hc => ?_)
  · rw [if_pos hc] at h
    refine fhW.blk fhPM fhLL hΓ [(.iconst (-1), -1)] (pc' := 51) (lv' := [(0, .ref 0), (1, .int v1)]) (st' := [.int (-1 : Int32)]) (σ' := σ) (by decide +kernel) rfl rfl rfl ?_
    have e9 := Option.some.inj h
    subst e9
    exact fhW.iret hΓ (by decide +kernel) hk
  · rw [if_neg hc] at h
    obtain ⟨hg1, h⟩ := fhif h
    refine fhW.blk fhPM fhLL hΓ [(.aload_n 0, 0), (.getfield 250, 0), (.iload_n 1, 0), (.iaload, 0)] (pc' := 47) (lv' := [(0, .ref 0), (1, .int v1)]) (st' := [.int (σ.1 77 (fhix v1))]) (σ' := σ) (by decide +kernel) rfl rfl hg1 ?_
    refine fhW.goto hΓ (off := 4) (tgt := 51) (by decide +kernel) ?_
    have e9 := Option.some.inj h
    subst e9
    exact fhW.iret hΓ (by decide +kernel) hk
set_option maxRecDepth 100000 in
set_option maxHeartbeats 4000000 in
theorem L_X12_qBracket_7 {Γ : fhX} (hΓ : fhOk fhYM 12 cX12_qBracket 2 (some .int) Γ) (hd : 1 ≤ fhD Γ) (v1 : Int32)  (σ : fhM) (o : (Int32) ⊕ (Int32)) (h : f_X12_qBracket_7 v1 σ = some o) (hk : (fhK (fun x => fhW fhYM Γ 7 [(0, .ref 0), (1, .int x)] [] σ) (fun o => fhRet Γ (some (.int o)) σ)) o) : fhW fhYM Γ 7 [(0, .ref 0), (1, .int v1)] [] σ := by
  unfold f_X12_qBracket_7 at h
  refine fhW.blk fhPM fhLL hΓ [(.iload_n 1, 0), (.aload_n 0, 0), (.getfield 359, 0)] (pc' := 12) (lv' := [(0, .ref 0), (1, .int v1)]) (st' := [.int (σ.1 0 103), .int v1]) (σ' := σ) (by decide +kernel) rfl rfl rfl ?_
  refine fhW.i_lt hΓ (tgt := 33) (show fhbk _ _ (.if_icmp .lt (21)) _ = true by decide +kernel) (fun hc => ?_) (fun hc => ?_)
  · rw [if_pos hc] at h
    refine fhW.sub (lv' := [(0, .ref 0), (1, .int v1)]) [0, 1] rfl ?_
    obtain ⟨z1, hz, e1⟩ := Option.map_eq_some_iff.mp h
    clear h
    subst e1
    have h := hz
    have hk : (fun o => fhRet Γ (some (.int o)) σ) z1 := hk
    exact L_X12_qBracket_33 hΓ hd v1 σ _ h hk
  · rw [if_neg hc] at h
    obtain ⟨hg2, h⟩ := fhif h
    refine fhW.blk fhPM fhLL hΓ [(.aload_n 0, 0), (.getfield 250, 0), (.iload_n 1, 0), (.iaload, 0)] (pc' := 21) (lv' := [(0, .ref 0), (1, .int v1)]) (st' := [.int (σ.1 77 (fhix v1))]) (σ' := σ) (by decide +kernel) rfl rfl hg2 ?_
    refine fhW.calls hΓ msX12_qIsBracket ml_12_590 (av := [.int (σ.1 77 (fhix v1))]) (rest := []) (r := (some (.int (fhb (f_X12_qIsBracket (σ.1 77 (fhix v1)) σ))))) (σ' := σ) (T_X12_qIsBracket (E := fhEn Γ) (d := fhD Γ - 1) (by omega) (σ.1 77 (fhix v1)) σ) (by omega) (by decide +kernel) rfl (Nat.le_of_ble_eq_true rfl) rfl ?_
    show fhW fhYM Γ 24 [(0, .ref 0), (1, .int v1)] [.int (fhb (f_X12_qIsBracket (σ.1 77 (fhix v1)) σ))] σ
    refine fhW.b_ne hΓ (tgt := 33) (show fhbk _ _ (.ifCond .ne (9)) _ = true by decide +kernel) (fun hc => ?_) (fun hc => ?_)
    · rw [if_pos hc] at h
      refine fhW.sub (lv' := [(0, .ref 0), (1, .int v1)]) [0, 1] rfl ?_
      obtain ⟨z2, hz, e2⟩ := Option.map_eq_some_iff.mp h
      clear h
      subst e2
      have h := hz
      have hk : (fun o => fhRet Γ (some (.int o)) σ) z2 := hk
      exact L_X12_qBracket_33 hΓ hd v1 σ _ h hk
    · rw [if_neg hc] at h
      refine fhW.blk fhPM fhLL hΓ [(.iinc 1 (-1), -1)] (pc' := 30) (lv' := [(1, .int (v1 + (-1 : Int32))), (0, .ref 0)]) (st' := []) (σ' := σ) (by decide +kernel) rfl rfl rfl ?_
      refine fhW.goto hΓ (off := (-23)) (tgt := 7) (by decide +kernel) ?_
      refine fhW.sub (lv' := [(0, .ref 0), (1, .int (v1 + (-1 : Int32)))]) [1, 0] rfl ?_
      have e9 := Option.some.inj h
      subst e9
      exact hk
set_option maxRecDepth 100000 in
set_option maxHeartbeats 4000000 in
theorem L_X12_qBracket_E {Γ : fhX} (hΓ : fhOk fhYM 12 cX12_qBracket 2 (some .int) Γ) (hd : 1 ≤ fhD Γ)   (σ : fhM) (o : Int32) (h : f_X12_qBracket σ = some o) (hk : (fun o => fhRet Γ (some (.int o)) σ) o) : fhW fhYM Γ 0 [(0, .ref 0)] [] σ := by
  unfold f_X12_qBracket at h
  refine fhW.blk fhPM fhLL hΓ [(.aload_n 0, 0), (.getfield 353, 0), (.iconst 1, 1), (.isub, 0), (.istore_n 1, 0)] (pc' := 7) (lv' := [(1, .int ((σ.1 0 101) - (1 : Int32))), (0, .ref 0)]) (st' := []) (σ' := σ) (by decide +kernel) rfl rfl rfl ?_
  refine fhW.sub (lv' := [(0, .ref 0), (1, .int ((σ.1 0 101) - (1 : Int32)))]) [1, 0] rfl ?_
  exact fhlp_ok (W := (fun x => fhW fhYM Γ 7 [(0, .ref 0), (1, .int x)] [] σ)) (B := (fun o => fhRet Γ (some (.int o)) σ)) (fun x o h hk => L_X12_qBracket_7 hΓ hd x σ o h hk) ((σ.1 0 101) - (1 : Int32)) _ h hk
set_option maxRecDepth 100000 in
theorem T_X12_qBracket {E : fhE} {d : Nat} (hd : 1 ≤ d)   (σ : fhM) {o : Int32} (h : f_X12_qBracket σ = some o) : fhC fhYM E d miX12_qBracket [.ref 0] σ (some (.int o)) σ := by
  refine fhC.of (y := yX12_qBracket) (cc := cX12_qBracket) (nL := 2) (ret := (some .int)) 12 rfl (by decide +kernel) (Nat.le_of_ble_eq_true rfl) ?_
  intro Γ hΓ hR hD hEn
  subst hD; subst hEn
  exact L_X12_qBracket_E hΓ hd   σ _ h hR
set_option maxRecDepth 100000 in
set_option maxHeartbeats 4000000 in
theorem L_X12_qDropsToBracket_0 {Γ : fhX} (hΓ : fhOk fhYM 12 cX12_qDropsToBracket 1 none Γ) (hd : 2 ≤ fhD Γ)   (σ : fhM) (o : (fhM) ⊕ (fhM)) (h : f_X12_qDropsToBracket_0 σ = some o) (hk : (fhK (fun x => fhW fhYM Γ 0 [(0, .ref 0)] [] x) (fun o => fhRet Γ none o)) o) : fhW fhYM Γ 0 [(0, .ref 0)] [] σ := by
  unfold f_X12_qDropsToBracket_0 at h
  refine fhW.blk fhPM fhLL hΓ [(.aload_n 0, 0), (.getfield 353, 0), (.aload_n 0, 0), (.getfield 359, 0)] (pc' := 8) (lv' := [(0, .ref 0)]) (st' := [.int (σ.1 0 103), .int (σ.1 0 101)]) (σ' := σ) (by decide +kernel) rfl rfl rfl ?_
  refine fhW.i_le hΓ (tgt := 35) (show fhbk _ _ (.if_icmp .le (27)) _ = true by decide +kernel) (fun hc => ?_) (fun hc => ?_)
  · rw [if_pos hc] at h
    have e9 := Option.some.inj h
    subst e9
    exact fhW.vret hΓ (by decide +kernel) hk
  · rw [if_neg hc] at h
    obtain ⟨hg1, h⟩ := fhif h
    refine fhW.blk fhPM fhLL hΓ [(.aload_n 0, 0), (.getfield 250, 0), (.aload_n 0, 0), (.getfield 353, 0), (.iconst 1, 1), (.isub, 0), (.iaload, 0)] (pc' := 22) (lv' := [(0, .ref 0)]) (st' := [.int (σ.1 77 (fhix ((σ.1 0 101) - (1 : Int32))))]) (σ' := σ) (by decide +kernel) rfl rfl hg1 ?_
    refine fhW.calls hΓ msX12_qIsBracket ml_12_590 (av := [.int (σ.1 77 (fhix ((σ.1 0 101) - (1 : Int32))))]) (rest := []) (r := (some (.int (fhb (f_X12_qIsBracket (σ.1 77 (fhix ((σ.1 0 101) - (1 : Int32)))) σ))))) (σ' := σ) (T_X12_qIsBracket (E := fhEn Γ) (d := fhD Γ - 1) (by omega) (σ.1 77 (fhix ((σ.1 0 101) - (1 : Int32)))) σ) (by omega) (by decide +kernel) rfl (Nat.le_of_ble_eq_true rfl) rfl ?_
    show fhW fhYM Γ 25 [(0, .ref 0)] [.int (fhb (f_X12_qIsBracket (σ.1 77 (fhix ((σ.1 0 101) - (1 : Int32)))) σ))] σ
    refine fhW.b_ne hΓ (tgt := 35) (show fhbk _ _ (.ifCond .ne (10)) _ = true by decide +kernel) (fun hc => ?_) (fun hc => ?_)
    · rw [if_pos hc] at h
      have e9 := Option.some.inj h
      subst e9
      exact fhW.vret hΓ (by decide +kernel) hk
    · rw [if_neg hc] at h
      refine fhW.blk fhPM fhLL hΓ [(.aload_n 0, 0)] (pc' := 29) (lv' := [(0, .ref 0)]) (st' := [.ref 0]) (σ' := σ) (by decide +kernel) rfl rfl rfl ?_
      obtain ⟨q1, hb1, h⟩ := Option.bind_eq_some_iff.mp h
      refine fhW.callv hΓ mvX12_qDrops ml_12_593 (t := 0) (ci := 12) (av := []) (rest := []) (r := none) (σ' := q1) (T_X12_qDrops (E := fhEn Γ) (d := fhD Γ - 1) (by omega) σ hb1) (by omega) (by decide +kernel) rfl rfl rfl (Nat.le_of_ble_eq_true rfl) rfl ?_
      show fhW fhYM Γ 32 [(0, .ref 0)] [] q1
      refine fhW.goto hΓ (off := (-32)) (tgt := 0) (by decide +kernel) ?_
      refine fhW.sub (lv' := [(0, .ref 0)]) [0] rfl ?_
      have e9 := Option.some.inj h
      subst e9
      exact hk
set_option maxRecDepth 100000 in
set_option maxHeartbeats 4000000 in
theorem L_X12_qDropsToBracket_E {Γ : fhX} (hΓ : fhOk fhYM 12 cX12_qDropsToBracket 1 none Γ) (hd : 2 ≤ fhD Γ)   (σ : fhM) (o : fhM) (h : f_X12_qDropsToBracket σ = some o) (hk : (fun o => fhRet Γ none o) o) : fhW fhYM Γ 0 [(0, .ref 0)] [] σ := by
  unfold f_X12_qDropsToBracket at h
  refine fhW.sub (lv' := [(0, .ref 0)]) [0] rfl ?_
  exact fhlp_ok (W := (fun x => fhW fhYM Γ 0 [(0, .ref 0)] [] x)) (B := (fun o => fhRet Γ none o)) (fun x o h hk => L_X12_qDropsToBracket_0 hΓ hd x o h hk) σ _ h hk
set_option maxRecDepth 100000 in
theorem T_X12_qDropsToBracket {E : fhE} {d : Nat} (hd : 2 ≤ d)   (σ : fhM) {o : fhM} (h : f_X12_qDropsToBracket σ = some o) : fhC fhYM E d miX12_qDropsToBracket [.ref 0] σ none o := by
  refine fhC.of (y := yX12_qDropsToBracket) (cc := cX12_qDropsToBracket) (nL := 1) (ret := none) 12 rfl (by decide +kernel) (Nat.le_of_ble_eq_true rfl) ?_
  intro Γ hΓ hR hD hEn
  subst hD; subst hEn
  exact L_X12_qDropsToBracket_E hΓ hd   σ _ h hR
set_option maxRecDepth 100000 in
set_option maxHeartbeats 4000000 in
theorem L_X12_qIsOn_E {Γ : fhX} (hΓ : fhOk fhYM 12 cX12_qIsOn 2 (some .boolean) Γ) (hd : 0 ≤ fhD Γ) (v1 : Int32)  (σ : fhM) (o : Bool) (h : f_X12_qIsOn v1 σ = some o) (hk : (fun o => fhRet Γ (some (.int (fhb o))) σ) o) : fhW fhYM Γ 0 [(0, .ref 0), (1, .int v1)] [] σ := by
  unfold f_X12_qIsOn at h
  refine fhW.blk fhPM fhLL hΓ [(.aload_n 0, 0), (.getfield 353, 0)] (pc' := 4) (lv' := [(0, .ref 0), (1, .int v1)]) (st' := [.int (σ.1 0 101)]) (σ' := σ) (by decide +kernel) rfl rfl rfl ?_
  refine fhW.z_le hΓ (tgt := 26) (show fhbk _ _ (.ifCond .le (22)) _ = true by decide +kernel) (fun hc => ?_) (fun hc => ?_)
  · rw [if_pos hc] at h
    refine fhW.blk fhPM fhLL hΓ [(.iconst 0, 0)] (pc' := 27) (lv' := [(0, .ref 0), (1, .int v1)]) (st' := [.int (0 : Int32)]) (σ' := σ) (by decide +kernel) rfl rfl rfl ?_
    have e9 := Option.some.inj h
    subst e9
    exact fhW.zret (v := false) hΓ (by decide +kernel) hk
  · rw [if_neg hc] at h
    obtain ⟨hg1, h⟩ := fhif h
    refine fhW.blk fhPM fhLL hΓ [(.aload_n 0, 0), (.getfield 250, 0), (.aload_n 0, 0), (.getfield 353, 0), (.iconst 1, 1), (.isub, 0), (.iaload, 0), (.iload_n 1, 0)] (pc' := 19) (lv' := [(0, .ref 0), (1, .int v1)]) (st' := [.int v1, .int (σ.1 77 (fhix ((σ.1 0 101) - (1 : Int32))))]) (σ' := σ) (by decide +kernel) rfl rfl hg1 ?_
    refine fhW.i_ne hΓ (tgt := 26) (show fhbk _ _ (.if_icmp .ne (7)) _ = true by decide +kernel) (fun hc => ?_) (fun hc => ?_)
    · rw [if_neg hc] at h
      refine fhW.blk fhPM fhLL hΓ [(.iconst 0, 0)] (pc' := 27) (lv' := [(0, .ref 0), (1, .int v1)]) (st' := [.int (0 : Int32)]) (σ' := σ) (by decide +kernel) rfl rfl rfl ?_
      have e9 := Option.some.inj h
      subst e9
      exact fhW.zret (v := false) hΓ (by decide +kernel) hk
    · rw [if_pos hc] at h
      refine fhW.blk fhPM fhLL hΓ [(.iconst 1, 1)] (pc' := 23) (lv' := [(0, .ref 0), (1, .int v1)]) (st' := [.int (1 : Int32)]) (σ' := σ) (by decide +kernel) rfl rfl rfl ?_
      refine fhW.goto hΓ (off := 4) (tgt := 27) (by decide +kernel) ?_
      have e9 := Option.some.inj h
      subst e9
      exact fhW.zret (v := true) hΓ (by decide +kernel) hk
set_option maxRecDepth 100000 in
theorem T_X12_qIsOn {E : fhE} {d : Nat} (hd : 0 ≤ d) (v1 : Int32)  (σ : fhM) {o : Bool} (h : f_X12_qIsOn v1 σ = some o) : fhC fhYM E d miX12_qIsOn [.ref 0, .int v1] σ (some (.int (fhb o))) σ := by
  refine fhC.of (y := yX12_qIsOn) (cc := cX12_qIsOn) (nL := 2) (ret := (some .boolean)) 12 rfl (by decide +kernel) (Nat.le_of_ble_eq_true rfl) ?_
  intro Γ hΓ hR hD hEn
  subst hD; subst hEn
  exact L_X12_qIsOn_E hΓ hd v1  σ _ h hR
set_option maxRecDepth 100000 in
set_option maxHeartbeats 4000000 in
theorem L_X12_qGoesOn_178 {Γ : fhX} (hΓ : fhOk fhYM 12 cX12_qGoesOn 2 (some .boolean) Γ) (hd : 3 ≤ fhD Γ) (v1 : Int32)  (σ : fhM) (o : (fhM) ⊕ (Bool × fhM)) (h : f_X12_qGoesOn_178 v1 σ = some o) (hk : (fhK (fun x => fhW fhYM Γ 162 [(0, .ref 0), (1, .int v1)] [] x) (fun o => fhRet Γ (some (.int (fhb o.1))) o.2)) o) : fhW fhYM Γ 178 [(0, .ref 0), (1, .int v1)] [] σ := by
  unfold f_X12_qGoesOn_178 at h
  refine fhW.blk fhPM fhLL hΓ [(.aload_n 0, 0)] (pc' := 179) (lv' := [(0, .ref 0), (1, .int v1)]) (st' := [.ref 0]) (σ' := σ) (by decide +kernel) rfl rfl rfl ?_
  obtain ⟨q24, hb1, h⟩ := Option.bind_eq_some_iff.mp h
  refine fhW.callv hΓ mvX12_qDrops ml_12_593 (t := 0) (ci := 12) (av := []) (rest := []) (r := none) (σ' := q24) (T_X12_qDrops (E := fhEn Γ) (d := fhD Γ - 1) (by omega) σ hb1) (by omega) (by decide +kernel) rfl rfl rfl (Nat.le_of_ble_eq_true rfl) rfl ?_
  show fhW fhYM Γ 182 [(0, .ref 0), (1, .int v1)] [] q24
  refine fhW.goto hΓ (off := (-20)) (tgt := 162) (by decide +kernel) ?_
  refine fhW.sub (lv' := [(0, .ref 0), (1, .int v1)]) [0, 1] rfl ?_
  have e9 := Option.some.inj h
  subst e9
  exact hk
set_option maxRecDepth 100000 in
set_option maxHeartbeats 4000000 in
theorem L_X12_qGoesOn_162 {Γ : fhX} (hΓ : fhOk fhYM 12 cX12_qGoesOn 2 (some .boolean) Γ) (hd : 3 ≤ fhD Γ) (v1 : Int32)  (σ : fhM) (o : (fhM) ⊕ (Bool × fhM)) (h : f_X12_qGoesOn_162 v1 σ = some o) (hk : (fhK (fun x => fhW fhYM Γ 162 [(0, .ref 0), (1, .int v1)] [] x) (fun o => fhRet Γ (some (.int (fhb o.1))) o.2)) o) : fhW fhYM Γ 162 [(0, .ref 0), (1, .int v1)] [] σ := by
  unfold f_X12_qGoesOn_162 at h
  refine fhW.blk fhPM fhLL hΓ [(.aload_n 0, 0), (.iconst 3, 3)] (pc' := 164) (lv' := [(0, .ref 0), (1, .int v1)]) (st' := [.int (3 : Int32), .ref 0]) (σ' := σ) (by decide +kernel) rfl rfl rfl ?_
  obtain ⟨q18, hb2, h⟩ := Option.bind_eq_some_iff.mp h
  refine fhW.callv hΓ mvX12_qIsOn ml_12_623 (t := 0) (ci := 12) (av := [.int (3 : Int32)]) (rest := []) (r := (some (.int (fhb q18)))) (σ' := σ) (T_X12_qIsOn (E := fhEn Γ) (d := fhD Γ - 1) (by omega) (3 : Int32) σ hb2) (by omega) (by decide +kernel) rfl rfl rfl (Nat.le_of_ble_eq_true rfl) rfl ?_
  show fhW fhYM Γ 167 [(0, .ref 0), (1, .int v1)] [.int (fhb q18)] σ
  refine fhW.b_ne hΓ (tgt := 178) (show fhbk _ _ (.ifCond .ne (11)) _ = true by decide +kernel) (fun hc => ?_) (fun hc => ?_)
  · rw [if_pos hc] at h
    refine fhW.sub (lv' := [(0, .ref 0), (1, .int v1)]) [0, 1] rfl ?_
    exact L_X12_qGoesOn_178 hΓ hd v1 σ _ h hk
  · rw [if_neg hc] at h
    refine fhW.blk fhPM fhLL hΓ [(.aload_n 0, 0), (.iconst 4, 4)] (pc' := 172) (lv' := [(0, .ref 0), (1, .int v1)]) (st' := [.int (4 : Int32), .ref 0]) (σ' := σ) (by decide +kernel) rfl rfl rfl ?_
    obtain ⟨q19, hb3, h⟩ := Option.bind_eq_some_iff.mp h
    refine fhW.callv hΓ mvX12_qIsOn ml_12_623 (t := 0) (ci := 12) (av := [.int (4 : Int32)]) (rest := []) (r := (some (.int (fhb q19)))) (σ' := σ) (T_X12_qIsOn (E := fhEn Γ) (d := fhD Γ - 1) (by omega) (4 : Int32) σ hb3) (by omega) (by decide +kernel) rfl rfl rfl (Nat.le_of_ble_eq_true rfl) rfl ?_
    show fhW fhYM Γ 175 [(0, .ref 0), (1, .int v1)] [.int (fhb q19)] σ
    refine fhW.b_eq hΓ (tgt := 185) (show fhbk _ _ (.ifCond .eq (10)) _ = true by decide +kernel) (fun hc => ?_) (fun hc => ?_)
    · rw [if_neg hc] at h
      obtain ⟨hg1, h⟩ := fhif h
      refine fhW.blk fhPM fhLL hΓ [(.aload_n 0, 0), (.getfield 250, 0), (.aload_n 0, 0), (.getfield 353, 0), (.iload_n 1, 0), (.iastore, 0), (.aload_n 0, 0), (.dup, 0), (.getfield 353, 0), (.iconst 1, 1), (.iadd, 0), (.putfield 353, 0), (.iconst 1, 1)] (pc' := 206) (lv' := [(0, .ref 0), (1, .int v1)]) (st' := [.int (1 : Int32)]) (σ' := (fhI (fhI σ 77 (fhix (σ.1 0 101)) v1) 0 101 ((σ.1 0 101) + (1 : Int32)))) (by decide +kernel) rfl rfl hg1 ?_
      have e9 := Option.some.inj h
      subst e9
      exact fhW.zret (v := true) hΓ (by decide +kernel) hk
    · rw [if_pos hc] at h
      refine fhW.sub (lv' := [(0, .ref 0), (1, .int v1)]) [0, 1] rfl ?_
      exact L_X12_qGoesOn_178 hΓ hd v1 σ _ h hk
set_option maxRecDepth 100000 in
set_option maxHeartbeats 4000000 in
theorem L_X12_qGoesOn_161 {Γ : fhX} (hΓ : fhOk fhYM 12 cX12_qGoesOn 2 (some .boolean) Γ) (hd : 3 ≤ fhD Γ) (s0 : Int32)  (σ : fhM) (o : Bool × fhM) (h : f_X12_qGoesOn_161 s0 σ = some o) (hk : (fun o => fhRet Γ (some (.int (fhb o.1))) o.2) o) : fhW fhYM Γ 161 [(0, .ref 0)] [.int s0] σ := by
  unfold f_X12_qGoesOn_161 at h
  refine fhW.blk fhPM fhLL hΓ [(.istore_n 1, 0)] (pc' := 162) (lv' := [(1, .int s0), (0, .ref 0)]) (st' := []) (σ' := σ) (by decide +kernel) rfl rfl rfl ?_
  refine fhW.sub (lv' := [(0, .ref 0), (1, .int s0)]) [1, 0] rfl ?_
  exact fhlp_ok (W := (fun x => fhW fhYM Γ 162 [(0, .ref 0), (1, .int s0)] [] x)) (B := (fun o => fhRet Γ (some (.int (fhb o.1))) o.2)) (fun x o h hk => L_X12_qGoesOn_162 hΓ hd s0 x o h hk) σ _ h hk
set_option maxRecDepth 100000 in
set_option maxHeartbeats 4000000 in
theorem L_X12_qGoesOn_140 {Γ : fhX} (hΓ : fhOk fhYM 12 cX12_qGoesOn 2 (some .boolean) Γ) (hd : 3 ≤ fhD Γ)   (σ : fhM) (o : Bool × fhM) (h : f_X12_qGoesOn_140 σ = some o) (hk : (fun o => fhRet Γ (some (.int (fhb o.1))) o.2) o) : fhW fhYM Γ 140 [(0, .ref 0)] [] σ := by
  unfold f_X12_qGoesOn_140 at h
  obtain ⟨hg2, h⟩ := fhif h
  refine fhW.blk fhPM fhLL hΓ [(.aload_n 0, 0), (.getfield 7, 0), (.aload_n 0, 0), (.getfield 268, 0), (.iconst 1, 1), (.isub, 0), (.iaload, 0), (.bipush 42, 42)] (pc' := 153) (lv' := [(0, .ref 0)]) (st' := [.int (42 : Int32), .int (σ.1 1 (fhix ((σ.1 0 2) - (1 : Int32))))]) (σ' := σ) (by decide +kernel) rfl rfl hg2 ?_
  refine fhW.i_ne hΓ (tgt := 160) (show fhbk _ _ (.if_icmp .ne (7)) _ = true by decide +kernel) (fun hc => ?_) (fun hc => ?_)
  · simp only [if_neg hc] at h
    refine fhW.blk fhPM fhLL hΓ [(.iconst 4, 4)] (pc' := 161) (lv' := [(0, .ref 0)]) (st' := [.int (4 : Int32)]) (σ' := σ) (by decide +kernel) rfl rfl rfl ?_
    refine fhW.sub (lv' := [(0, .ref 0)]) [0] rfl ?_
    exact L_X12_qGoesOn_161 hΓ hd (4 : Int32) σ _ h hk
  · simp only [if_pos hc] at h
    refine fhW.blk fhPM fhLL hΓ [(.iconst 3, 3)] (pc' := 157) (lv' := [(0, .ref 0)]) (st' := [.int (3 : Int32)]) (σ' := σ) (by decide +kernel) rfl rfl rfl ?_
    refine fhW.goto hΓ (off := 4) (tgt := 161) (by decide +kernel) ?_
    refine fhW.sub (lv' := [(0, .ref 0)]) [0] rfl ?_
    exact L_X12_qGoesOn_161 hΓ hd (3 : Int32) σ _ h hk
set_option maxRecDepth 100000 in
set_option maxHeartbeats 4000000 in
theorem L_X12_qGoesOn_279 {Γ : fhX} (hΓ : fhOk fhYM 12 cX12_qGoesOn 2 (some .boolean) Γ) (hd : 3 ≤ fhD Γ) (v1 : Int32)  (σ : fhM) (o : (fhM) ⊕ (Bool × fhM)) (h : f_X12_qGoesOn_279 v1 σ = some o) (hk : (fhK (fun x => fhW fhYM Γ 247 [(0, .ref 0), (1, .int v1)] [] x) (fun o => fhRet Γ (some (.int (fhb o.1))) o.2)) o) : fhW fhYM Γ 279 [(0, .ref 0), (1, .int v1)] [] σ := by
  unfold f_X12_qGoesOn_279 at h
  refine fhW.blk fhPM fhLL hΓ [(.aload_n 0, 0)] (pc' := 280) (lv' := [(0, .ref 0), (1, .int v1)]) (st' := [.ref 0]) (σ' := σ) (by decide +kernel) rfl rfl rfl ?_
  obtain ⟨q25, hb4, h⟩ := Option.bind_eq_some_iff.mp h
  refine fhW.callv hΓ mvX12_qDrops ml_12_593 (t := 0) (ci := 12) (av := []) (rest := []) (r := none) (σ' := q25) (T_X12_qDrops (E := fhEn Γ) (d := fhD Γ - 1) (by omega) σ hb4) (by omega) (by decide +kernel) rfl rfl rfl (Nat.le_of_ble_eq_true rfl) rfl ?_
  show fhW fhYM Γ 283 [(0, .ref 0), (1, .int v1)] [] q25
  refine fhW.goto hΓ (off := (-36)) (tgt := 247) (by decide +kernel) ?_
  refine fhW.sub (lv' := [(0, .ref 0), (1, .int v1)]) [0, 1] rfl ?_
  have e9 := Option.some.inj h
  subst e9
  exact hk
set_option maxRecDepth 100000 in
set_option maxHeartbeats 4000000 in
theorem L_X12_qGoesOn_247 {Γ : fhX} (hΓ : fhOk fhYM 12 cX12_qGoesOn 2 (some .boolean) Γ) (hd : 3 ≤ fhD Γ) (v1 : Int32)  (σ : fhM) (o : (fhM) ⊕ (Bool × fhM)) (h : f_X12_qGoesOn_247 v1 σ = some o) (hk : (fhK (fun x => fhW fhYM Γ 247 [(0, .ref 0), (1, .int v1)] [] x) (fun o => fhRet Γ (some (.int (fhb o.1))) o.2)) o) : fhW fhYM Γ 247 [(0, .ref 0), (1, .int v1)] [] σ := by
  unfold f_X12_qGoesOn_247 at h
  refine fhW.blk fhPM fhLL hΓ [(.aload_n 0, 0), (.iconst 3, 3)] (pc' := 249) (lv' := [(0, .ref 0), (1, .int v1)]) (st' := [.int (3 : Int32), .ref 0]) (σ' := σ) (by decide +kernel) rfl rfl rfl ?_
  obtain ⟨q20, hb5, h⟩ := Option.bind_eq_some_iff.mp h
  refine fhW.callv hΓ mvX12_qIsOn ml_12_623 (t := 0) (ci := 12) (av := [.int (3 : Int32)]) (rest := []) (r := (some (.int (fhb q20)))) (σ' := σ) (T_X12_qIsOn (E := fhEn Γ) (d := fhD Γ - 1) (by omega) (3 : Int32) σ hb5) (by omega) (by decide +kernel) rfl rfl rfl (Nat.le_of_ble_eq_true rfl) rfl ?_
  show fhW fhYM Γ 252 [(0, .ref 0), (1, .int v1)] [.int (fhb q20)] σ
  refine fhW.b_ne hΓ (tgt := 279) (show fhbk _ _ (.ifCond .ne (27)) _ = true by decide +kernel) (fun hc => ?_) (fun hc => ?_)
  · rw [if_pos hc] at h
    refine fhW.sub (lv' := [(0, .ref 0), (1, .int v1)]) [0, 1] rfl ?_
    exact L_X12_qGoesOn_279 hΓ hd v1 σ _ h hk
  · rw [if_neg hc] at h
    refine fhW.blk fhPM fhLL hΓ [(.aload_n 0, 0), (.iconst 4, 4)] (pc' := 257) (lv' := [(0, .ref 0), (1, .int v1)]) (st' := [.int (4 : Int32), .ref 0]) (σ' := σ) (by decide +kernel) rfl rfl rfl ?_
    obtain ⟨q21, hb6, h⟩ := Option.bind_eq_some_iff.mp h
    refine fhW.callv hΓ mvX12_qIsOn ml_12_623 (t := 0) (ci := 12) (av := [.int (4 : Int32)]) (rest := []) (r := (some (.int (fhb q21)))) (σ' := σ) (T_X12_qIsOn (E := fhEn Γ) (d := fhD Γ - 1) (by omega) (4 : Int32) σ hb6) (by omega) (by decide +kernel) rfl rfl rfl (Nat.le_of_ble_eq_true rfl) rfl ?_
    show fhW fhYM Γ 260 [(0, .ref 0), (1, .int v1)] [.int (fhb q21)] σ
    refine fhW.b_ne hΓ (tgt := 279) (show fhbk _ _ (.ifCond .ne (19)) _ = true by decide +kernel) (fun hc => ?_) (fun hc => ?_)
    · rw [if_pos hc] at h
      refine fhW.sub (lv' := [(0, .ref 0), (1, .int v1)]) [0, 1] rfl ?_
      exact L_X12_qGoesOn_279 hΓ hd v1 σ _ h hk
    · rw [if_neg hc] at h
      refine fhW.blk fhPM fhLL hΓ [(.aload_n 0, 0), (.iconst 1, 1)] (pc' := 265) (lv' := [(0, .ref 0), (1, .int v1)]) (st' := [.int (1 : Int32), .ref 0]) (σ' := σ) (by decide +kernel) rfl rfl rfl ?_
      obtain ⟨q22, hb7, h⟩ := Option.bind_eq_some_iff.mp h
      refine fhW.callv hΓ mvX12_qIsOn ml_12_623 (t := 0) (ci := 12) (av := [.int (1 : Int32)]) (rest := []) (r := (some (.int (fhb q22)))) (σ' := σ) (T_X12_qIsOn (E := fhEn Γ) (d := fhD Γ - 1) (by omega) (1 : Int32) σ hb7) (by omega) (by decide +kernel) rfl rfl rfl (Nat.le_of_ble_eq_true rfl) rfl ?_
      show fhW fhYM Γ 268 [(0, .ref 0), (1, .int v1)] [.int (fhb q22)] σ
      refine fhW.b_ne hΓ (tgt := 279) (show fhbk _ _ (.ifCond .ne (11)) _ = true by decide +kernel) (fun hc => ?_) (fun hc => ?_)
      · rw [if_pos hc] at h
        refine fhW.sub (lv' := [(0, .ref 0), (1, .int v1)]) [0, 1] rfl ?_
        exact L_X12_qGoesOn_279 hΓ hd v1 σ _ h hk
      · rw [if_neg hc] at h
        refine fhW.blk fhPM fhLL hΓ [(.aload_n 0, 0), (.iconst 2, 2)] (pc' := 273) (lv' := [(0, .ref 0), (1, .int v1)]) (st' := [.int (2 : Int32), .ref 0]) (σ' := σ) (by decide +kernel) rfl rfl rfl ?_
        obtain ⟨q23, hb8, h⟩ := Option.bind_eq_some_iff.mp h
        refine fhW.callv hΓ mvX12_qIsOn ml_12_623 (t := 0) (ci := 12) (av := [.int (2 : Int32)]) (rest := []) (r := (some (.int (fhb q23)))) (σ' := σ) (T_X12_qIsOn (E := fhEn Γ) (d := fhD Γ - 1) (by omega) (2 : Int32) σ hb8) (by omega) (by decide +kernel) rfl rfl rfl (Nat.le_of_ble_eq_true rfl) rfl ?_
        show fhW fhYM Γ 276 [(0, .ref 0), (1, .int v1)] [.int (fhb q23)] σ
        refine fhW.b_eq hΓ (tgt := 286) (show fhbk _ _ (.ifCond .eq (10)) _ = true by decide +kernel) (fun hc => ?_) (fun hc => ?_)
        · rw [if_neg hc] at h
          obtain ⟨hg3, h⟩ := fhif h
          refine fhW.blk fhPM fhLL hΓ [(.aload_n 0, 0), (.getfield 250, 0), (.aload_n 0, 0), (.getfield 353, 0), (.iload_n 1, 0), (.iastore, 0), (.aload_n 0, 0), (.dup, 0), (.getfield 353, 0), (.iconst 1, 1), (.iadd, 0), (.putfield 353, 0), (.iconst 1, 1)] (pc' := 307) (lv' := [(0, .ref 0), (1, .int v1)]) (st' := [.int (1 : Int32)]) (σ' := (fhI (fhI σ 77 (fhix (σ.1 0 101)) v1) 0 101 ((σ.1 0 101) + (1 : Int32)))) (by decide +kernel) rfl rfl hg3 ?_
          have e9 := Option.some.inj h
          subst e9
          exact fhW.zret (v := true) hΓ (by decide +kernel) hk
        · rw [if_pos hc] at h
          refine fhW.sub (lv' := [(0, .ref 0), (1, .int v1)]) [0, 1] rfl ?_
          exact L_X12_qGoesOn_279 hΓ hd v1 σ _ h hk
set_option maxRecDepth 100000 in
set_option maxHeartbeats 4000000 in
theorem L_X12_qGoesOn_246 {Γ : fhX} (hΓ : fhOk fhYM 12 cX12_qGoesOn 2 (some .boolean) Γ) (hd : 3 ≤ fhD Γ) (s0 : Int32)  (σ : fhM) (o : Bool × fhM) (h : f_X12_qGoesOn_246 s0 σ = some o) (hk : (fun o => fhRet Γ (some (.int (fhb o.1))) o.2) o) : fhW fhYM Γ 246 [(0, .ref 0)] [.int s0] σ := by
  unfold f_X12_qGoesOn_246 at h
  refine fhW.blk fhPM fhLL hΓ [(.istore_n 1, 0)] (pc' := 247) (lv' := [(1, .int s0), (0, .ref 0)]) (st' := []) (σ' := σ) (by decide +kernel) rfl rfl rfl ?_
  refine fhW.sub (lv' := [(0, .ref 0), (1, .int s0)]) [1, 0] rfl ?_
  exact fhlp_ok (W := (fun x => fhW fhYM Γ 247 [(0, .ref 0), (1, .int s0)] [] x)) (B := (fun o => fhRet Γ (some (.int (fhb o.1))) o.2)) (fun x o h hk => L_X12_qGoesOn_247 hΓ hd s0 x o h hk) σ _ h hk
set_option maxRecDepth 100000 in
set_option maxHeartbeats 4000000 in
theorem L_X12_qGoesOn_225 {Γ : fhX} (hΓ : fhOk fhYM 12 cX12_qGoesOn 2 (some .boolean) Γ) (hd : 3 ≤ fhD Γ)   (σ : fhM) (o : Bool × fhM) (h : f_X12_qGoesOn_225 σ = some o) (hk : (fun o => fhRet Γ (some (.int (fhb o.1))) o.2) o) : fhW fhYM Γ 225 [(0, .ref 0)] [] σ := by
  unfold f_X12_qGoesOn_225 at h
  obtain ⟨hg4, h⟩ := fhif h
  refine fhW.blk fhPM fhLL hΓ [(.aload_n 0, 0), (.getfield 7, 0), (.aload_n 0, 0), (.getfield 268, 0), (.iconst 1, 1), (.isub, 0), (.iaload, 0), (.bipush 43, 43)] (pc' := 238) (lv' := [(0, .ref 0)]) (st' := [.int (43 : Int32), .int (σ.1 1 (fhix ((σ.1 0 2) - (1 : Int32))))]) (σ' := σ) (by decide +kernel) rfl rfl hg4 ?_
  refine fhW.i_ne hΓ (tgt := 245) (show fhbk _ _ (.if_icmp .ne (7)) _ = true by decide +kernel) (fun hc => ?_) (fun hc => ?_)
  · simp only [if_neg hc] at h
    refine fhW.blk fhPM fhLL hΓ [(.iconst 2, 2)] (pc' := 246) (lv' := [(0, .ref 0)]) (st' := [.int (2 : Int32)]) (σ' := σ) (by decide +kernel) rfl rfl rfl ?_
    refine fhW.sub (lv' := [(0, .ref 0)]) [0] rfl ?_
    exact L_X12_qGoesOn_246 hΓ hd (2 : Int32) σ _ h hk
  · simp only [if_pos hc] at h
    refine fhW.blk fhPM fhLL hΓ [(.iconst 1, 1)] (pc' := 242) (lv' := [(0, .ref 0)]) (st' := [.int (1 : Int32)]) (σ' := σ) (by decide +kernel) rfl rfl rfl ?_
    refine fhW.goto hΓ (off := 4) (tgt := 246) (by decide +kernel) ?_
    refine fhW.sub (lv' := [(0, .ref 0)]) [0] rfl ?_
    exact L_X12_qGoesOn_246 hΓ hd (1 : Int32) σ _ h hk
set_option maxRecDepth 100000 in
set_option maxHeartbeats 4000000 in
theorem L_X12_qGoesOn_326 {Γ : fhX} (hΓ : fhOk fhYM 12 cX12_qGoesOn 2 (some .boolean) Γ) (hd : 3 ≤ fhD Γ)   (σ : fhM) (o : Bool × fhM) (h : f_X12_qGoesOn_326 σ = some o) (hk : (fun o => fhRet Γ (some (.int (fhb o.1))) o.2) o) : fhW fhYM Γ 326 [(0, .ref 0)] [] σ := by
  unfold f_X12_qGoesOn_326 at h
  refine fhW.blk fhPM fhLL hΓ [(.aload_n 0, 0), (.bipush 44, 44)] (pc' := 329) (lv' := [(0, .ref 0)]) (st' := [.int (44 : Int32), .ref 0]) (σ' := σ) (by decide +kernel) rfl rfl rfl ?_
  obtain ⟨q14, hb9, h⟩ := Option.bind_eq_some_iff.mp h
  refine fhW.callv hΓ mvX12_asksSign ml_12_335 (t := 0) (ci := 12) (av := [.int (44 : Int32)]) (rest := []) (r := none) (σ' := q14) (T_X12_asksSign (E := fhEn Γ) (d := fhD Γ - 1) (by omega) (44 : Int32) σ hb9) (by omega) (by decide +kernel) rfl rfl rfl (Nat.le_of_ble_eq_true rfl) rfl ?_
  show fhW fhYM Γ 332 [(0, .ref 0)] [] q14
  refine fhW.blk fhPM fhLL hΓ [(.aload_n 0, 0), (.getfield 262, 0)] (pc' := 336) (lv' := [(0, .ref 0)]) (st' := [.int (q14.1 0 5)]) (σ' := q14) (by decide +kernel) rfl rfl rfl ?_
  refine fhW.z_eq hΓ (tgt := 341) (show fhbk _ _ (.ifCond .eq (5)) _ = true by decide +kernel) (fun hc => ?_) (fun hc => ?_)
  · rw [if_pos hc] at h
    refine fhW.blk fhPM fhLL hΓ [(.aload_n 0, 0)] (pc' := 342) (lv' := [(0, .ref 0)]) (st' := [.ref 0]) (σ' := q14) (by decide +kernel) rfl rfl rfl ?_
    obtain ⟨q15, hb10, h⟩ := Option.bind_eq_some_iff.mp h
    refine fhW.callv hΓ mvX12_qDropsToBracket ml_12_620 (t := 0) (ci := 12) (av := []) (rest := []) (r := none) (σ' := q15) (T_X12_qDropsToBracket (E := fhEn Γ) (d := fhD Γ - 1) (by omega) q14 hb10) (by omega) (by decide +kernel) rfl rfl rfl (Nat.le_of_ble_eq_true rfl) rfl ?_
    show fhW fhYM Γ 345 [(0, .ref 0)] [] q15
    obtain ⟨hg5, h⟩ := fhif h
    refine fhW.blk fhPM fhLL hΓ [(.aload_n 0, 0), (.getfield 250, 0), (.aload_n 0, 0), (.getfield 353, 0), (.iconst 1, 1), (.isub, 0), (.dup2, 0), (.iaload, 0), (.iconst 2, 2), (.iadd, 0), (.iastore, 0), (.iconst 1, 1)] (pc' := 361) (lv' := [(0, .ref 0)]) (st' := [.int (1 : Int32)]) (σ' := (fhI q15 77 (fhix ((q15.1 0 101) - (1 : Int32))) ((q15.1 77 (fhix ((q15.1 0 101) - (1 : Int32)))) + (2 : Int32)))) (by decide +kernel) rfl rfl hg5 ?_
    have e9 := Option.some.inj h
    subst e9
    exact fhW.zret (v := true) hΓ (by decide +kernel) hk
  · rw [if_neg hc] at h
    refine fhW.blk fhPM fhLL hΓ [(.iconst 0, 0)] (pc' := 340) (lv' := [(0, .ref 0)]) (st' := [.int (0 : Int32)]) (σ' := q14) (by decide +kernel) rfl rfl rfl ?_
    have e9 := Option.some.inj h
    subst e9
    exact fhW.zret (v := false) hΓ (by decide +kernel) hk
set_option maxRecDepth 100000 in
set_option maxHeartbeats 4000000 in
theorem L_X12_qGoesOn_122 {Γ : fhX} (hΓ : fhOk fhYM 12 cX12_qGoesOn 2 (some .boolean) Γ) (hd : 3 ≤ fhD Γ)   (σ : fhM) (o : Bool × fhM) (h : f_X12_qGoesOn_122 σ = some o) (hk : (fun o => fhRet Γ (some (.int (fhb o.1))) o.2) o) : fhW fhYM Γ 122 [(0, .ref 0)] [] σ := by
  unfold f_X12_qGoesOn_122 at h
  refine fhW.blk fhPM fhLL hΓ [(.aload_n 0, 0), (.bipush 42, 42)] (pc' := 125) (lv' := [(0, .ref 0)]) (st' := [.int (42 : Int32), .ref 0]) (σ' := σ) (by decide +kernel) rfl rfl rfl ?_
  obtain ⟨q5, hb11, h⟩ := Option.bind_eq_some_iff.mp h
  refine fhW.callv hΓ mvX12_takesSign ml_12_296 (t := 0) (ci := 12) (av := [.int (42 : Int32)]) (rest := []) (r := (some (.int (fhb q5.1)))) (σ' := q5.2) (T_X12_takesSign (E := fhEn Γ) (d := fhD Γ - 1) (by omega) (42 : Int32) σ hb11) (by omega) (by decide +kernel) rfl rfl rfl (Nat.le_of_ble_eq_true rfl) rfl ?_
  show fhW fhYM Γ 128 [(0, .ref 0)] [.int (fhb q5.1)] q5.2
  refine fhW.b_ne hΓ (tgt := 140) (show fhbk _ _ (.ifCond .ne (12)) _ = true by decide +kernel) (fun hc => ?_) (fun hc => ?_)
  · rw [if_pos hc] at h
    refine fhW.sub (lv' := [(0, .ref 0)]) [0] rfl ?_
    exact L_X12_qGoesOn_140 hΓ hd q5.2 _ h hk
  · rw [if_neg hc] at h
    refine fhW.blk fhPM fhLL hΓ [(.aload_n 0, 0), (.bipush 47, 47)] (pc' := 134) (lv' := [(0, .ref 0)]) (st' := [.int (47 : Int32), .ref 0]) (σ' := q5.2) (by decide +kernel) rfl rfl rfl ?_
    obtain ⟨q6, hb12, h⟩ := Option.bind_eq_some_iff.mp h
    refine fhW.callv hΓ mvX12_takesSign ml_12_296 (t := 0) (ci := 12) (av := [.int (47 : Int32)]) (rest := []) (r := (some (.int (fhb q6.1)))) (σ' := q6.2) (T_X12_takesSign (E := fhEn Γ) (d := fhD Γ - 1) (by omega) (47 : Int32) q5.2 hb12) (by omega) (by decide +kernel) rfl rfl rfl (Nat.le_of_ble_eq_true rfl) rfl ?_
    show fhW fhYM Γ 137 [(0, .ref 0)] [.int (fhb q6.1)] q6.2
    refine fhW.b_eq hΓ (tgt := 207) (show fhbk _ _ (.ifCond .eq (70)) _ = true by decide +kernel) (fun hc => ?_) (fun hc => ?_)
    · rw [if_neg hc] at h
      refine fhW.blk fhPM fhLL hΓ [(.aload_n 0, 0), (.bipush 43, 43)] (pc' := 210) (lv' := [(0, .ref 0)]) (st' := [.int (43 : Int32), .ref 0]) (σ' := q6.2) (by decide +kernel) rfl rfl rfl ?_
      obtain ⟨q7, hb13, h⟩ := Option.bind_eq_some_iff.mp h
      refine fhW.callv hΓ mvX12_takesSign ml_12_296 (t := 0) (ci := 12) (av := [.int (43 : Int32)]) (rest := []) (r := (some (.int (fhb q7.1)))) (σ' := q7.2) (T_X12_takesSign (E := fhEn Γ) (d := fhD Γ - 1) (by omega) (43 : Int32) q6.2 hb13) (by omega) (by decide +kernel) rfl rfl rfl (Nat.le_of_ble_eq_true rfl) rfl ?_
      show fhW fhYM Γ 213 [(0, .ref 0)] [.int (fhb q7.1)] q7.2
      refine fhW.b_ne hΓ (tgt := 225) (show fhbk _ _ (.ifCond .ne (12)) _ = true by decide +kernel) (fun hc => ?_) (fun hc => ?_)
      · rw [if_pos hc] at h
        refine fhW.sub (lv' := [(0, .ref 0)]) [0] rfl ?_
        exact L_X12_qGoesOn_225 hΓ hd q7.2 _ h hk
      · rw [if_neg hc] at h
        refine fhW.blk fhPM fhLL hΓ [(.aload_n 0, 0), (.bipush 45, 45)] (pc' := 219) (lv' := [(0, .ref 0)]) (st' := [.int (45 : Int32), .ref 0]) (σ' := q7.2) (by decide +kernel) rfl rfl rfl ?_
        obtain ⟨q8, hb14, h⟩ := Option.bind_eq_some_iff.mp h
        refine fhW.callv hΓ mvX12_takesSign ml_12_296 (t := 0) (ci := 12) (av := [.int (45 : Int32)]) (rest := []) (r := (some (.int (fhb q8.1)))) (σ' := q8.2) (T_X12_takesSign (E := fhEn Γ) (d := fhD Γ - 1) (by omega) (45 : Int32) q7.2 hb14) (by omega) (by decide +kernel) rfl rfl rfl (Nat.le_of_ble_eq_true rfl) rfl ?_
        show fhW fhYM Γ 222 [(0, .ref 0)] [.int (fhb q8.1)] q8.2
        refine fhW.b_eq hΓ (tgt := 308) (show fhbk _ _ (.ifCond .eq (86)) _ = true by decide +kernel) (fun hc => ?_) (fun hc => ?_)
        · rw [if_neg hc] at h
          refine fhW.blk fhPM fhLL hΓ [(.aload_n 0, 0)] (pc' := 309) (lv' := [(0, .ref 0)]) (st' := [.ref 0]) (σ' := q8.2) (by decide +kernel) rfl rfl rfl ?_
          obtain ⟨q9, hb15, h⟩ := Option.bind_eq_some_iff.mp h
          refine fhW.callv hΓ mvX12_qBracket ml_12_617 (t := 0) (ci := 12) (av := []) (rest := []) (r := (some (.int q9))) (σ' := q8.2) (T_X12_qBracket (E := fhEn Γ) (d := fhD Γ - 1) (by omega) q8.2 hb15) (by omega) (by decide +kernel) rfl rfl rfl (Nat.le_of_ble_eq_true rfl) rfl ?_
          show fhW fhYM Γ 312 [(0, .ref 0)] [.int q9] q8.2
          refine fhW.blk fhPM fhLL hΓ [(.bipush 21, 21)] (pc' := 314) (lv' := [(0, .ref 0)]) (st' := [.int (21 : Int32), .int q9]) (σ' := q8.2) (by decide +kernel) rfl rfl rfl ?_
          refine fhW.i_eq hΓ (tgt := 326) (show fhbk _ _ (.if_icmp .eq (12)) _ = true by decide +kernel) (fun hc => ?_) (fun hc => ?_)
          · rw [if_pos hc] at h
            refine fhW.sub (lv' := [(0, .ref 0)]) [0] rfl ?_
            exact L_X12_qGoesOn_326 hΓ hd q8.2 _ h hk
          · rw [if_neg hc] at h
            refine fhW.blk fhPM fhLL hΓ [(.aload_n 0, 0)] (pc' := 318) (lv' := [(0, .ref 0)]) (st' := [.ref 0]) (σ' := q8.2) (by decide +kernel) rfl rfl rfl ?_
            obtain ⟨q10, hb16, h⟩ := Option.bind_eq_some_iff.mp h
            refine fhW.callv hΓ mvX12_qBracket ml_12_617 (t := 0) (ci := 12) (av := []) (rest := []) (r := (some (.int q10))) (σ' := q8.2) (T_X12_qBracket (E := fhEn Γ) (d := fhD Γ - 1) (by omega) q8.2 hb16) (by omega) (by decide +kernel) rfl rfl rfl (Nat.le_of_ble_eq_true rfl) rfl ?_
            show fhW fhYM Γ 321 [(0, .ref 0)] [.int q10] q8.2
            refine fhW.blk fhPM fhLL hΓ [(.bipush 22, 22)] (pc' := 323) (lv' := [(0, .ref 0)]) (st' := [.int (22 : Int32), .int q10]) (σ' := q8.2) (by decide +kernel) rfl rfl rfl ?_
            refine fhW.i_ne hΓ (tgt := 362) (show fhbk _ _ (.if_icmp .ne (39)) _ = true by decide +kernel) (fun hc => ?_) (fun hc => ?_)
            · rw [if_neg hc] at h
              refine fhW.blk fhPM fhLL hΓ [(.aload_n 0, 0)] (pc' := 363) (lv' := [(0, .ref 0)]) (st' := [.ref 0]) (σ' := q8.2) (by decide +kernel) rfl rfl rfl ?_
              obtain ⟨q11, hb17, h⟩ := Option.bind_eq_some_iff.mp h
              refine fhW.callv hΓ mvX12_qBracket ml_12_617 (t := 0) (ci := 12) (av := []) (rest := []) (r := (some (.int q11))) (σ' := q8.2) (T_X12_qBracket (E := fhEn Γ) (d := fhD Γ - 1) (by omega) q8.2 hb17) (by omega) (by decide +kernel) rfl rfl rfl (Nat.le_of_ble_eq_true rfl) rfl ?_
              show fhW fhYM Γ 366 [(0, .ref 0)] [.int q11] q8.2
              refine fhW.blk fhPM fhLL hΓ [(.iconst (-1), -1)] (pc' := 367) (lv' := [(0, .ref 0)]) (st' := [.int (-1 : Int32), .int q11]) (σ' := q8.2) (by decide +kernel) rfl rfl rfl ?_
              refine fhW.i_eq hΓ (tgt := 386) (show fhbk _ _ (.if_icmp .eq (19)) _ = true by decide +kernel) (fun hc => ?_) (fun hc => ?_)
              · rw [if_pos hc] at h
                refine fhW.blk fhPM fhLL hΓ [(.iconst 0, 0)] (pc' := 387) (lv' := [(0, .ref 0)]) (st' := [.int (0 : Int32)]) (σ' := q8.2) (by decide +kernel) rfl rfl rfl ?_
                have e9 := Option.some.inj h
                subst e9
                exact fhW.zret (v := false) hΓ (by decide +kernel) hk
              · rw [if_neg hc] at h
                refine fhW.blk fhPM fhLL hΓ [(.aload_n 0, 0), (.getfield 262, 0)] (pc' := 374) (lv' := [(0, .ref 0)]) (st' := [.int (q8.2.1 0 5)]) (σ' := q8.2) (by decide +kernel) rfl rfl rfl ?_
                refine fhW.z_ne hΓ (tgt := 386) (show fhbk _ _ (.ifCond .ne (12)) _ = true by decide +kernel) (fun hc => ?_) (fun hc => ?_)
                · rw [if_neg hc] at h
                  refine fhW.blk fhPM fhLL hΓ [(.iconst 0, 0)] (pc' := 387) (lv' := [(0, .ref 0)]) (st' := [.int (0 : Int32)]) (σ' := q8.2) (by decide +kernel) rfl rfl rfl ?_
                  have e9 := Option.some.inj h
                  subst e9
                  exact fhW.zret (v := false) hΓ (by decide +kernel) hk
                · rw [if_pos hc] at h
                  refine fhW.blk fhPM fhLL hΓ [(.aload_n 0, 0), (.iconst 1, 1), (.aload_n 0, 0), (.getfield 268, 0)] (pc' := 383) (lv' := [(0, .ref 0)]) (st' := [.int (q8.2.1 0 2), .int (1 : Int32), .ref 0]) (σ' := q8.2) (by decide +kernel) rfl rfl rfl ?_
                  refine fhW.callv hΓ mvX12_fail ml_12_292 (t := 0) (ci := 12) (av := [.int (1 : Int32), .int (q8.2.1 0 2)]) (rest := []) (r := none) (σ' := (f_X12_fail (1 : Int32) (q8.2.1 0 2) q8.2)) (T_X12_fail (E := fhEn Γ) (d := fhD Γ - 1) (by omega) (1 : Int32) (q8.2.1 0 2) q8.2) (by omega) (by decide +kernel) rfl rfl rfl (Nat.le_of_ble_eq_true rfl) rfl ?_
                  show fhW fhYM Γ 386 [(0, .ref 0)] [] (f_X12_fail (1 : Int32) (q8.2.1 0 2) q8.2)
                  obtain ⟨q12, e1, h⟩ := fhlet_elim h
                  rw [← e1]
                  refine fhW.blk fhPM fhLL hΓ [(.iconst 0, 0)] (pc' := 387) (lv' := [(0, .ref 0)]) (st' := [.int (0 : Int32)]) (σ' := q12) (by decide +kernel) rfl rfl rfl ?_
                  have e9 := Option.some.inj h
                  subst e9
                  exact fhW.zret (v := false) hΓ (by decide +kernel) hk
            · rw [if_pos hc] at h
              refine fhW.sub (lv' := [(0, .ref 0)]) [0] rfl ?_
              exact L_X12_qGoesOn_326 hΓ hd q8.2 _ h hk
        · rw [if_pos hc] at h
          refine fhW.sub (lv' := [(0, .ref 0)]) [0] rfl ?_
          exact L_X12_qGoesOn_225 hΓ hd q8.2 _ h hk
    · rw [if_pos hc] at h
      refine fhW.sub (lv' := [(0, .ref 0)]) [0] rfl ?_
      exact L_X12_qGoesOn_140 hΓ hd q6.2 _ h hk
set_option maxRecDepth 100000 in
set_option maxHeartbeats 4000000 in
theorem L_X12_qGoesOn_115 {Γ : fhX} (hΓ : fhOk fhYM 12 cX12_qGoesOn 2 (some .boolean) Γ) (hd : 3 ≤ fhD Γ)   (σ : fhM) (o : (fhM) ⊕ (Bool × fhM)) (h : f_X12_qGoesOn_115 σ = some o) (hk : (fhK (fun x => fhW fhYM Γ 0 [(0, .ref 0)] [] x) (fun o => fhRet Γ (some (.int (fhb o.1))) o.2)) o) : fhW fhYM Γ 115 [(0, .ref 0)] [] σ := by
  unfold f_X12_qGoesOn_115 at h
  refine fhW.blk fhPM fhLL hΓ [(.aload_n 0, 0)] (pc' := 116) (lv' := [(0, .ref 0)]) (st' := [.ref 0]) (σ' := σ) (by decide +kernel) rfl rfl rfl ?_
  obtain ⟨q16, hb18, h⟩ := Option.bind_eq_some_iff.mp h
  refine fhW.callv hΓ mvX12_qEndsPart ml_12_614 (t := 0) (ci := 12) (av := []) (rest := []) (r := none) (σ' := q16) (T_X12_qEndsPart (E := fhEn Γ) (d := fhD Γ - 1) (by omega) σ hb18) (by omega) (by decide +kernel) rfl rfl rfl (Nat.le_of_ble_eq_true rfl) rfl ?_
  show fhW fhYM Γ 119 [(0, .ref 0)] [] q16
  refine fhW.goto hΓ (off := (-119)) (tgt := 0) (by decide +kernel) ?_
  refine fhW.sub (lv' := [(0, .ref 0)]) [0] rfl ?_
  have e9 := Option.some.inj h
  subst e9
  exact hk
set_option maxRecDepth 100000 in
set_option maxHeartbeats 4000000 in
theorem L_X12_qGoesOn_112 {Γ : fhX} (hΓ : fhOk fhYM 12 cX12_qGoesOn 2 (some .boolean) Γ) (hd : 3 ≤ fhD Γ) (s0 : Int32)  (σ : fhM) (o : (fhM) ⊕ (Bool × fhM)) (h : f_X12_qGoesOn_112 s0 σ = some o) (hk : (fhK (fun x => fhW fhYM Γ 0 [(0, .ref 0)] [] x) (fun o => fhRet Γ (some (.int (fhb o.1))) o.2)) o) : fhW fhYM Γ 112 [(0, .ref 0)] [.int s0, .ref 0] σ := by
  unfold f_X12_qGoesOn_112 at h
  obtain ⟨q17, hb19, h⟩ := Option.bind_eq_some_iff.mp h
  refine fhW.callv hΓ mvX12_qCode ml_12_587 (t := 0) (ci := 12) (av := [.int s0]) (rest := []) (r := none) (σ' := q17) (T_X12_qCode (E := fhEn Γ) (d := fhD Γ - 1) (by omega) s0 σ hb19) (by omega) (by decide +kernel) rfl rfl rfl (Nat.le_of_ble_eq_true rfl) rfl ?_
  show fhW fhYM Γ 115 [(0, .ref 0)] [] q17
  refine fhW.sub (lv' := [(0, .ref 0)]) [0] rfl ?_
  exact L_X12_qGoesOn_115 hΓ hd q17 _ h hk
set_option maxRecDepth 100000 in
set_option maxHeartbeats 4000000 in
theorem L_X12_qGoesOn_43 {Γ : fhX} (hΓ : fhOk fhYM 12 cX12_qGoesOn 2 (some .boolean) Γ) (hd : 3 ≤ fhD Γ)   (σ : fhM) (o : (fhM) ⊕ (Bool × fhM)) (h : f_X12_qGoesOn_43 σ = some o) (hk : (fhK (fun x => fhW fhYM Γ 0 [(0, .ref 0)] [] x) (fun o => fhRet Γ (some (.int (fhb o.1))) o.2)) o) : fhW fhYM Γ 43 [(0, .ref 0)] [] σ := by
  unfold f_X12_qGoesOn_43 at h
  refine fhW.blk fhPM fhLL hΓ [(.aload_n 0, 0), (.dup, 0), (.getfield 268, 0), (.iconst 1, 1), (.iadd, 0), (.putfield 268, 0), (.aload_n 0, 0)] (pc' := 54) (lv' := [(0, .ref 0)]) (st' := [.ref 0]) (σ' := (fhI σ 0 2 ((σ.1 0 2) + (1 : Int32)))) (by decide +kernel) rfl rfl rfl ?_
  obtain ⟨q13, hb20, h⟩ := Option.bind_eq_some_iff.mp h
  refine fhW.callv hΓ mvX12_qDropsToBracket ml_12_620 (t := 0) (ci := 12) (av := []) (rest := []) (r := none) (σ' := q13) (T_X12_qDropsToBracket (E := fhEn Γ) (d := fhD Γ - 1) (by omega) (fhI σ 0 2 ((σ.1 0 2) + (1 : Int32))) hb20) (by omega) (by decide +kernel) rfl rfl rfl (Nat.le_of_ble_eq_true rfl) rfl ?_
  show fhW fhYM Γ 57 [(0, .ref 0)] [] q13
  obtain ⟨hg6, h⟩ := fhif h
  refine fhW.blk fhPM fhLL hΓ [(.aload_n 0, 0), (.dup, 0), (.getfield 353, 0), (.iconst 1, 1), (.isub, 0), (.putfield 353, 0), (.aload_n 0, 0), (.dup, 0), (.getfield 356, 0), (.iconst 1, 1), (.isub, 0), (.putfield 356, 0), (.aload_n 0, 0), (.getfield 250, 0), (.aload_n 0, 0), (.getfield 353, 0), (.iaload, 0), (.bipush 20, 20)] (pc' := 88) (lv' := [(0, .ref 0)]) (st' := [.int (20 : Int32), .int (q13.1 77 (fhix ((q13.1 0 101) - (1 : Int32))))]) (σ' := (fhI (fhI q13 0 101 ((q13.1 0 101) - (1 : Int32))) 0 102 ((q13.1 0 102) - (1 : Int32)))) (by decide +kernel) rfl rfl hg6 ?_
  refine fhW.i_eq hΓ (tgt := 115) (show fhbk _ _ (.if_icmp .eq (27)) _ = true by decide +kernel) (fun hc => ?_) (fun hc => ?_)
  · rw [if_pos hc] at h
    refine fhW.sub (lv' := [(0, .ref 0)]) [0] rfl ?_
    exact L_X12_qGoesOn_115 hΓ hd (fhI (fhI q13 0 101 ((q13.1 0 101) - (1 : Int32))) 0 102 ((q13.1 0 102) - (1 : Int32))) _ h hk
  · rw [if_neg hc] at h
    obtain ⟨hg7, h⟩ := fhif h
    refine fhW.blk fhPM fhLL hΓ [(.aload_n 0, 0), (.aload_n 0, 0), (.getfield 250, 0), (.aload_n 0, 0), (.getfield 353, 0), (.iaload, 0), (.bipush 23, 23)] (pc' := 103) (lv' := [(0, .ref 0)]) (st' := [.int (23 : Int32), .int (q13.1 77 (fhix ((q13.1 0 101) - (1 : Int32)))), .ref 0]) (σ' := (fhI (fhI q13 0 101 ((q13.1 0 101) - (1 : Int32))) 0 102 ((q13.1 0 102) - (1 : Int32)))) (by decide +kernel) rfl rfl hg7 ?_
    refine fhW.i_ne hΓ (tgt := 110) (show fhbk _ _ (.if_icmp .ne (7)) _ = true by decide +kernel) (fun hc => ?_) (fun hc => ?_)
    · simp only [if_neg hc] at h
      refine fhW.blk fhPM fhLL hΓ [(.bipush 6, 6)] (pc' := 112) (lv' := [(0, .ref 0)]) (st' := [.int (6 : Int32), .ref 0]) (σ' := (fhI (fhI q13 0 101 ((q13.1 0 101) - (1 : Int32))) 0 102 ((q13.1 0 102) - (1 : Int32)))) (by decide +kernel) rfl rfl rfl ?_
      refine fhW.sub (lv' := [(0, .ref 0)]) [0] rfl ?_
      exact L_X12_qGoesOn_112 hΓ hd (6 : Int32) (fhI (fhI q13 0 101 ((q13.1 0 101) - (1 : Int32))) 0 102 ((q13.1 0 102) - (1 : Int32))) _ h hk
    · simp only [if_pos hc] at h
      refine fhW.blk fhPM fhLL hΓ [(.iconst 5, 5)] (pc' := 107) (lv' := [(0, .ref 0)]) (st' := [.int (5 : Int32), .ref 0]) (σ' := (fhI (fhI q13 0 101 ((q13.1 0 101) - (1 : Int32))) 0 102 ((q13.1 0 102) - (1 : Int32)))) (by decide +kernel) rfl rfl rfl ?_
      refine fhW.goto hΓ (off := 5) (tgt := 112) (by decide +kernel) ?_
      refine fhW.sub (lv' := [(0, .ref 0)]) [0] rfl ?_
      exact L_X12_qGoesOn_112 hΓ hd (5 : Int32) (fhI (fhI q13 0 101 ((q13.1 0 101) - (1 : Int32))) 0 102 ((q13.1 0 102) - (1 : Int32))) _ h hk
set_option maxRecDepth 100000 in
set_option maxHeartbeats 4000000 in
theorem L_X12_qGoesOn_0 {Γ : fhX} (hΓ : fhOk fhYM 12 cX12_qGoesOn 2 (some .boolean) Γ) (hd : 3 ≤ fhD Γ)   (σ : fhM) (o : (fhM) ⊕ (Bool × fhM)) (h : f_X12_qGoesOn_0 σ = some o) (hk : (fhK (fun x => fhW fhYM Γ 0 [(0, .ref 0)] [] x) (fun o => fhRet Γ (some (.int (fhb o.1))) o.2)) o) : fhW fhYM Γ 0 [(0, .ref 0)] [] σ := by
  unfold f_X12_qGoesOn_0 at h
  refine fhW.blk fhPM fhLL hΓ [(.aload_n 0, 0), (.getfield 262, 0)] (pc' := 4) (lv' := [(0, .ref 0)]) (st' := [.int (σ.1 0 5)]) (σ' := σ) (by decide +kernel) rfl rfl rfl ?_
  refine fhW.z_ne hΓ (tgt := 122) (show fhbk _ _ (.ifCond .ne (118)) _ = true by decide +kernel) (fun hc => ?_) (fun hc => ?_)
  · rw [if_neg hc] at h
    refine fhW.sub (lv' := [(0, .ref 0)]) [0] rfl ?_
    obtain ⟨z1, hz, e2⟩ := Option.map_eq_some_iff.mp h
    clear h
    subst e2
    have h := hz
    have hk : (fun o => fhRet Γ (some (.int (fhb o.1))) o.2) z1 := hk
    exact L_X12_qGoesOn_122 hΓ hd σ _ h hk
  · rw [if_pos hc] at h
    refine fhW.blk fhPM fhLL hΓ [(.aload_n 0, 0)] (pc' := 8) (lv' := [(0, .ref 0)]) (st' := [.ref 0]) (σ' := σ) (by decide +kernel) rfl rfl rfl ?_
    obtain ⟨q1, hb21, h⟩ := Option.bind_eq_some_iff.mp h
    refine fhW.callv hΓ mvX12_look ml_12_274 (t := 0) (ci := 12) (av := []) (rest := []) (r := (some (.int q1.1))) (σ' := q1.2) (T_X12_look (E := fhEn Γ) (d := fhD Γ - 1) (by omega) σ hb21) (by omega) (by decide +kernel) rfl rfl rfl (Nat.le_of_ble_eq_true rfl) rfl ?_
    show fhW fhYM Γ 11 [(0, .ref 0)] [.int q1.1] q1.2
    refine fhW.blk fhPM fhLL hΓ [(.bipush 41, 41)] (pc' := 13) (lv' := [(0, .ref 0)]) (st' := [.int (41 : Int32), .int q1.1]) (σ' := q1.2) (by decide +kernel) rfl rfl rfl ?_
    refine fhW.i_ne hΓ (tgt := 122) (show fhbk _ _ (.if_icmp .ne (109)) _ = true by decide +kernel) (fun hc => ?_) (fun hc => ?_)
    · rw [if_neg hc] at h
      refine fhW.sub (lv' := [(0, .ref 0)]) [0] rfl ?_
      obtain ⟨z2, hz, e3⟩ := Option.map_eq_some_iff.mp h
      clear h
      subst e3
      have h := hz
      have hk : (fun o => fhRet Γ (some (.int (fhb o.1))) o.2) z2 := hk
      exact L_X12_qGoesOn_122 hΓ hd q1.2 _ h hk
    · rw [if_pos hc] at h
      refine fhW.blk fhPM fhLL hΓ [(.aload_n 0, 0)] (pc' := 17) (lv' := [(0, .ref 0)]) (st' := [.ref 0]) (σ' := q1.2) (by decide +kernel) rfl rfl rfl ?_
      obtain ⟨q2, hb22, h⟩ := Option.bind_eq_some_iff.mp h
      refine fhW.callv hΓ mvX12_qBracket ml_12_617 (t := 0) (ci := 12) (av := []) (rest := []) (r := (some (.int q2))) (σ' := q1.2) (T_X12_qBracket (E := fhEn Γ) (d := fhD Γ - 1) (by omega) q1.2 hb22) (by omega) (by decide +kernel) rfl rfl rfl (Nat.le_of_ble_eq_true rfl) rfl ?_
      show fhW fhYM Γ 20 [(0, .ref 0)] [.int q2] q1.2
      refine fhW.blk fhPM fhLL hΓ [(.bipush 20, 20)] (pc' := 22) (lv' := [(0, .ref 0)]) (st' := [.int (20 : Int32), .int q2]) (σ' := q1.2) (by decide +kernel) rfl rfl rfl ?_
      refine fhW.i_eq hΓ (tgt := 43) (show fhbk _ _ (.if_icmp .eq (21)) _ = true by decide +kernel) (fun hc => ?_) (fun hc => ?_)
      · rw [if_pos hc] at h
        refine fhW.sub (lv' := [(0, .ref 0)]) [0] rfl ?_
        exact L_X12_qGoesOn_43 hΓ hd q1.2 _ h hk
      · rw [if_neg hc] at h
        refine fhW.blk fhPM fhLL hΓ [(.aload_n 0, 0)] (pc' := 26) (lv' := [(0, .ref 0)]) (st' := [.ref 0]) (σ' := q1.2) (by decide +kernel) rfl rfl rfl ?_
        obtain ⟨q3, hb23, h⟩ := Option.bind_eq_some_iff.mp h
        refine fhW.callv hΓ mvX12_qBracket ml_12_617 (t := 0) (ci := 12) (av := []) (rest := []) (r := (some (.int q3))) (σ' := q1.2) (T_X12_qBracket (E := fhEn Γ) (d := fhD Γ - 1) (by omega) q1.2 hb23) (by omega) (by decide +kernel) rfl rfl rfl (Nat.le_of_ble_eq_true rfl) rfl ?_
        show fhW fhYM Γ 29 [(0, .ref 0)] [.int q3] q1.2
        refine fhW.blk fhPM fhLL hΓ [(.bipush 23, 23)] (pc' := 31) (lv' := [(0, .ref 0)]) (st' := [.int (23 : Int32), .int q3]) (σ' := q1.2) (by decide +kernel) rfl rfl rfl ?_
        refine fhW.i_eq hΓ (tgt := 43) (show fhbk _ _ (.if_icmp .eq (12)) _ = true by decide +kernel) (fun hc => ?_) (fun hc => ?_)
        · rw [if_pos hc] at h
          refine fhW.sub (lv' := [(0, .ref 0)]) [0] rfl ?_
          exact L_X12_qGoesOn_43 hΓ hd q1.2 _ h hk
        · rw [if_neg hc] at h
          refine fhW.blk fhPM fhLL hΓ [(.aload_n 0, 0)] (pc' := 35) (lv' := [(0, .ref 0)]) (st' := [.ref 0]) (σ' := q1.2) (by decide +kernel) rfl rfl rfl ?_
          obtain ⟨q4, hb24, h⟩ := Option.bind_eq_some_iff.mp h
          refine fhW.callv hΓ mvX12_qBracket ml_12_617 (t := 0) (ci := 12) (av := []) (rest := []) (r := (some (.int q4))) (σ' := q1.2) (T_X12_qBracket (E := fhEn Γ) (d := fhD Γ - 1) (by omega) q1.2 hb24) (by omega) (by decide +kernel) rfl rfl rfl (Nat.le_of_ble_eq_true rfl) rfl ?_
          show fhW fhYM Γ 38 [(0, .ref 0)] [.int q4] q1.2
          refine fhW.blk fhPM fhLL hΓ [(.bipush 24, 24)] (pc' := 40) (lv' := [(0, .ref 0)]) (st' := [.int (24 : Int32), .int q4]) (σ' := q1.2) (by decide +kernel) rfl rfl rfl ?_
          refine fhW.i_ne hΓ (tgt := 122) (show fhbk _ _ (.if_icmp .ne (82)) _ = true by decide +kernel) (fun hc => ?_) (fun hc => ?_)
          · rw [if_neg hc] at h
            refine fhW.sub (lv' := [(0, .ref 0)]) [0] rfl ?_
            obtain ⟨z3, hz, e4⟩ := Option.map_eq_some_iff.mp h
            clear h
            subst e4
            have h := hz
            have hk : (fun o => fhRet Γ (some (.int (fhb o.1))) o.2) z3 := hk
            exact L_X12_qGoesOn_122 hΓ hd q1.2 _ h hk
          · rw [if_pos hc] at h
            refine fhW.sub (lv' := [(0, .ref 0)]) [0] rfl ?_
            exact L_X12_qGoesOn_43 hΓ hd q1.2 _ h hk
set_option maxRecDepth 100000 in
set_option maxHeartbeats 4000000 in
theorem L_X12_qGoesOn_E {Γ : fhX} (hΓ : fhOk fhYM 12 cX12_qGoesOn 2 (some .boolean) Γ) (hd : 3 ≤ fhD Γ)   (σ : fhM) (o : Bool × fhM) (h : f_X12_qGoesOn σ = some o) (hk : (fun o => fhRet Γ (some (.int (fhb o.1))) o.2) o) : fhW fhYM Γ 0 [(0, .ref 0)] [] σ := by
  unfold f_X12_qGoesOn at h
  refine fhW.sub (lv' := [(0, .ref 0)]) [0] rfl ?_
  exact fhlp_ok (W := (fun x => fhW fhYM Γ 0 [(0, .ref 0)] [] x)) (B := (fun o => fhRet Γ (some (.int (fhb o.1))) o.2)) (fun x o h hk => L_X12_qGoesOn_0 hΓ hd x o h hk) σ _ h hk
set_option maxRecDepth 100000 in
theorem T_X12_qGoesOn {E : fhE} {d : Nat} (hd : 3 ≤ d)   (σ : fhM) {o : Bool × fhM} (h : f_X12_qGoesOn σ = some o) : fhC fhYM E d miX12_qGoesOn [.ref 0] σ (some (.int (fhb o.1))) o.2 := by
  refine fhC.of (y := yX12_qGoesOn) (cc := cX12_qGoesOn) (nL := 2) (ret := (some .boolean)) 12 rfl (by decide +kernel) (Nat.le_of_ble_eq_true rfl) ?_
  intro Γ hΓ hR hD hEn
  subst hD; subst hEn
  exact L_X12_qGoesOn_E hΓ hd   σ _ h hR
set_option maxRecDepth 100000 in
set_option maxHeartbeats 4000000 in
theorem L_X12_qSums_78 {Γ : fhX} (hΓ : fhOk fhYM 12 cX12_qSums 3 none Γ) (hd : 6 ≤ fhD Γ) (v1 : Int32)  (σ : fhM) (o : fhM) (h : f_X12_qSums_78 v1 σ = some o) (hk : (fun o => fhRet Γ none o) o) : fhW fhYM Γ 78 [(0, .ref 0), (1, .int v1)] [] σ := by
  unfold f_X12_qSums_78 at h
  refine fhW.blk fhPM fhLL hΓ [(.aload_n 0, 0), (.iload_n 1, 0), (.putfield 359, 0)] (pc' := 83) (lv' := [(0, .ref 0), (1, .int v1)]) (st' := []) (σ' := (fhI σ 0 103 v1)) (by decide +kernel) rfl rfl rfl ?_
  have e9 := Option.some.inj h
  subst e9
  exact fhW.vret hΓ (by decide +kernel) hk
set_option maxRecDepth 100000 in
set_option maxHeartbeats 4000000 in
theorem L_X12_qSums_53 {Γ : fhX} (hΓ : fhOk fhYM 12 cX12_qSums 3 none Γ) (hd : 6 ≤ fhD Γ) (v1 : Int32)  (σ : fhM) (o : (fhM) ⊕ (fhM)) (h : f_X12_qSums_53 v1 σ = some o) (hk : (fhK (fun x => fhW fhYM Γ 53 [(0, .ref 0), (1, .int v1)] [] x) (fun o => fhRet Γ none o)) o) : fhW fhYM Γ 53 [(0, .ref 0), (1, .int v1)] [] σ := by
  unfold f_X12_qSums_53 at h
  refine fhW.blk fhPM fhLL hΓ [(.aload_n 0, 0), (.getfield 262, 0)] (pc' := 57) (lv' := [(0, .ref 0), (1, .int v1)]) (st' := [.int (σ.1 0 5)]) (σ' := σ) (by decide +kernel) rfl rfl rfl ?_
  refine fhW.z_ne hΓ (tgt := 78) (show fhbk _ _ (.ifCond .ne (21)) _ = true by decide +kernel) (fun hc => ?_) (fun hc => ?_)
  · rw [if_neg hc] at h
    refine fhW.sub (lv' := [(0, .ref 0), (1, .int v1)]) [0, 1] rfl ?_
    obtain ⟨z1, hz, e1⟩ := Option.map_eq_some_iff.mp h
    clear h
    subst e1
    have h := hz
    have hk : (fun o => fhRet Γ none o) z1 := hk
    exact L_X12_qSums_78 hΓ hd v1 σ _ h hk
  · rw [if_pos hc] at h
    refine fhW.blk fhPM fhLL hΓ [(.aload_n 0, 0), (.getfield 353, 0), (.aload_n 0, 0), (.getfield 359, 0)] (pc' := 68) (lv' := [(0, .ref 0), (1, .int v1)]) (st' := [.int (σ.1 0 103), .int (σ.1 0 101)]) (σ' := σ) (by decide +kernel) rfl rfl rfl ?_
    refine fhW.i_le hΓ (tgt := 78) (show fhbk _ _ (.if_icmp .le (10)) _ = true by decide +kernel) (fun hc => ?_) (fun hc => ?_)
    · rw [if_pos hc] at h
      refine fhW.sub (lv' := [(0, .ref 0), (1, .int v1)]) [0, 1] rfl ?_
      obtain ⟨z2, hz, e2⟩ := Option.map_eq_some_iff.mp h
      clear h
      subst e2
      have h := hz
      have hk : (fun o => fhRet Γ none o) z2 := hk
      exact L_X12_qSums_78 hΓ hd v1 σ _ h hk
    · rw [if_neg hc] at h
      refine fhW.blk fhPM fhLL hΓ [(.aload_n 0, 0)] (pc' := 72) (lv' := [(0, .ref 0), (1, .int v1)]) (st' := [.ref 0]) (σ' := σ) (by decide +kernel) rfl rfl rfl ?_
      obtain ⟨q3, hb1, h⟩ := Option.bind_eq_some_iff.mp h
      refine fhW.callv hΓ mvX12_qDrops ml_12_593 (t := 0) (ci := 12) (av := []) (rest := []) (r := none) (σ' := q3) (T_X12_qDrops (E := fhEn Γ) (d := fhD Γ - 1) (by omega) σ hb1) (by omega) (by decide +kernel) rfl rfl rfl (Nat.le_of_ble_eq_true rfl) rfl ?_
      show fhW fhYM Γ 75 [(0, .ref 0), (1, .int v1)] [] q3
      refine fhW.goto hΓ (off := (-22)) (tgt := 53) (by decide +kernel) ?_
      refine fhW.sub (lv' := [(0, .ref 0), (1, .int v1)]) [0, 1] rfl ?_
      have e9 := Option.some.inj h
      subst e9
      exact hk
set_option maxRecDepth 100000 in
set_option maxHeartbeats 4000000 in
theorem L_X12_qSums_49 {Γ : fhX} (hΓ : fhOk fhYM 12 cX12_qSums 3 none Γ) (hd : 6 ≤ fhD Γ) (v1 : Int32) (s0 : Int32)  (σ : fhM) (o : (Int32 × fhM) ⊕ (fhM)) (h : f_X12_qSums_49 v1 s0 σ = some o) (hk : (fhK (fun x => fhW fhYM Γ 15 [(0, .ref 0), (1, .int v1), (2, .int x.1)] [] x.2) (fun o => fhRet Γ none o)) o) : fhW fhYM Γ 49 [(0, .ref 0), (1, .int v1)] [.int s0] σ := by
  unfold f_X12_qSums_49 at h
  refine fhW.blk fhPM fhLL hΓ [(.istore_n 2, 0)] (pc' := 50) (lv' := [(2, .int s0), (0, .ref 0), (1, .int v1)]) (st' := []) (σ' := σ) (by decide +kernel) rfl rfl rfl ?_
  refine fhW.goto hΓ (off := (-35)) (tgt := 15) (by decide +kernel) ?_
  refine fhW.sub (lv' := [(0, .ref 0), (1, .int v1), (2, .int s0)]) [1, 2, 0] rfl ?_
  have e9 := Option.some.inj h
  subst e9
  exact hk
set_option maxRecDepth 100000 in
set_option maxHeartbeats 4000000 in
theorem L_X12_qSums_48 {Γ : fhX} (hΓ : fhOk fhYM 12 cX12_qSums 3 none Γ) (hd : 6 ≤ fhD Γ) (v1 : Int32)  (σ : fhM) (o : (Int32 × fhM) ⊕ (fhM)) (h : f_X12_qSums_48 v1 σ = some o) (hk : (fhK (fun x => fhW fhYM Γ 15 [(0, .ref 0), (1, .int v1), (2, .int x.1)] [] x.2) (fun o => fhRet Γ none o)) o) : fhW fhYM Γ 48 [(0, .ref 0), (1, .int v1)] [] σ := by
  unfold f_X12_qSums_48 at h
  refine fhW.blk fhPM fhLL hΓ [(.iconst 0, 0)] (pc' := 49) (lv' := [(0, .ref 0), (1, .int v1)]) (st' := [.int (0 : Int32)]) (σ' := σ) (by decide +kernel) rfl rfl rfl ?_
  refine fhW.sub (lv' := [(0, .ref 0), (1, .int v1)]) [0, 1] rfl ?_
  exact L_X12_qSums_49 hΓ hd v1 (0 : Int32) σ _ h hk
set_option maxRecDepth 100000 in
set_option maxHeartbeats 4000000 in
theorem L_X12_qSums_15 {Γ : fhX} (hΓ : fhOk fhYM 12 cX12_qSums 3 none Γ) (hd : 6 ≤ fhD Γ) (v1 : Int32) (v2 : Int32)  (σ : fhM) (o : (Int32 × fhM) ⊕ (fhM)) (h : f_X12_qSums_15 v1 v2 σ = some o) (hk : (fhK (fun x => fhW fhYM Γ 15 [(0, .ref 0), (1, .int v1), (2, .int x.1)] [] x.2) (fun o => fhRet Γ none o)) o) : fhW fhYM Γ 15 [(0, .ref 0), (1, .int v1), (2, .int v2)] [] σ := by
  unfold f_X12_qSums_15 at h
  refine fhW.blk fhPM fhLL hΓ [(.iload_n 2, 0)] (pc' := 16) (lv' := [(0, .ref 0), (1, .int v1), (2, .int v2)]) (st' := [.int v2]) (σ' := σ) (by decide +kernel) rfl rfl rfl ?_
  refine fhW.z_eq hΓ (tgt := 53) (show fhbk _ _ (.ifCond .eq (37)) _ = true by decide +kernel) (fun hc => ?_) (fun hc => ?_)
  · rw [if_pos hc] at h
    refine fhW.sub (lv' := [(0, .ref 0), (1, .int v1)]) [0, 1] rfl ?_
    obtain ⟨z3, hz, e3⟩ := Option.map_eq_some_iff.mp h
    clear h
    subst e3
    have h := hz
    have hk : (fun o => fhRet Γ none o) z3 := hk
    exact fhlp_ok (W := (fun x => fhW fhYM Γ 53 [(0, .ref 0), (1, .int v1)] [] x)) (B := (fun o => fhRet Γ none o)) (fun x o h hk => L_X12_qSums_53 hΓ hd v1 x o h hk) σ _ h hk
  · rw [if_neg hc] at h
    refine fhW.blk fhPM fhLL hΓ [(.aload_n 0, 0), (.getfield 262, 0)] (pc' := 23) (lv' := [(0, .ref 0), (1, .int v1), (2, .int v2)]) (st' := [.int (σ.1 0 5)]) (σ' := σ) (by decide +kernel) rfl rfl rfl ?_
    refine fhW.z_ne hΓ (tgt := 53) (show fhbk _ _ (.ifCond .ne (30)) _ = true by decide +kernel) (fun hc => ?_) (fun hc => ?_)
    · rw [if_neg hc] at h
      refine fhW.sub (lv' := [(0, .ref 0), (1, .int v1)]) [0, 1] rfl ?_
      obtain ⟨z4, hz, e4⟩ := Option.map_eq_some_iff.mp h
      clear h
      subst e4
      have h := hz
      have hk : (fun o => fhRet Γ none o) z4 := hk
      exact fhlp_ok (W := (fun x => fhW fhYM Γ 53 [(0, .ref 0), (1, .int v1)] [] x)) (B := (fun o => fhRet Γ none o)) (fun x o h hk => L_X12_qSums_53 hΓ hd v1 x o h hk) σ _ h hk
    · rw [if_pos hc] at h
      refine fhW.blk fhPM fhLL hΓ [(.aload_n 0, 0)] (pc' := 27) (lv' := [(0, .ref 0), (1, .int v1), (2, .int v2)]) (st' := [.ref 0]) (σ' := σ) (by decide +kernel) rfl rfl rfl ?_
      obtain ⟨q1, hb2, h⟩ := Option.bind_eq_some_iff.mp h
      refine fhW.callv hΓ mvX12_qPartTold ml_12_626 (t := 0) (ci := 12) (av := []) (rest := []) (r := none) (σ' := q1) (T_X12_qPartTold (E := fhEn Γ) (d := fhD Γ - 1) (by omega) σ hb2) (by omega) (by decide +kernel) rfl rfl rfl (Nat.le_of_ble_eq_true rfl) rfl ?_
      show fhW fhYM Γ 30 [(0, .ref 0), (1, .int v1), (2, .int v2)] [] q1
      refine fhW.blk fhPM fhLL hΓ [(.aload_n 0, 0), (.getfield 262, 0)] (pc' := 34) (lv' := [(0, .ref 0), (1, .int v1), (2, .int v2)]) (st' := [.int (q1.1 0 5)]) (σ' := q1) (by decide +kernel) rfl rfl rfl ?_
      refine fhW.z_ne hΓ (tgt := 48) (show fhbk _ _ (.ifCond .ne (14)) _ = true by decide +kernel) (fun hc => ?_) (fun hc => ?_)
      · rw [if_neg hc] at h
        refine fhW.sub (lv' := [(0, .ref 0), (1, .int v1)]) [0, 1] rfl ?_
        exact L_X12_qSums_48 hΓ hd v1 q1 _ h hk
      · rw [if_pos hc] at h
        refine fhW.blk fhPM fhLL hΓ [(.aload_n 0, 0)] (pc' := 38) (lv' := [(0, .ref 0), (1, .int v1), (2, .int v2)]) (st' := [.ref 0]) (σ' := q1) (by decide +kernel) rfl rfl rfl ?_
        obtain ⟨q2, hb3, h⟩ := Option.bind_eq_some_iff.mp h
        refine fhW.callv hΓ mvX12_qGoesOn ml_12_629 (t := 0) (ci := 12) (av := []) (rest := []) (r := (some (.int (fhb q2.1)))) (σ' := q2.2) (T_X12_qGoesOn (E := fhEn Γ) (d := fhD Γ - 1) (by omega) q1 hb3) (by omega) (by decide +kernel) rfl rfl rfl (Nat.le_of_ble_eq_true rfl) rfl ?_
        show fhW fhYM Γ 41 [(0, .ref 0), (1, .int v1), (2, .int v2)] [.int (fhb q2.1)] q2.2
        refine fhW.b_eq hΓ (tgt := 48) (show fhbk _ _ (.ifCond .eq (7)) _ = true by decide +kernel) (fun hc => ?_) (fun hc => ?_)
        · rw [if_neg hc] at h
          refine fhW.sub (lv' := [(0, .ref 0), (1, .int v1)]) [0, 1] rfl ?_
          exact L_X12_qSums_48 hΓ hd v1 q2.2 _ h hk
        · rw [if_pos hc] at h
          refine fhW.blk fhPM fhLL hΓ [(.iconst 1, 1)] (pc' := 45) (lv' := [(0, .ref 0), (1, .int v1), (2, .int v2)]) (st' := [.int (1 : Int32)]) (σ' := q2.2) (by decide +kernel) rfl rfl rfl ?_
          refine fhW.goto hΓ (off := 4) (tgt := 49) (by decide +kernel) ?_
          refine fhW.sub (lv' := [(0, .ref 0), (1, .int v1)]) [0, 1] rfl ?_
          exact L_X12_qSums_49 hΓ hd v1 (1 : Int32) q2.2 _ h hk
set_option maxRecDepth 100000 in
set_option maxHeartbeats 4000000 in
theorem L_X12_qSums_E {Γ : fhX} (hΓ : fhOk fhYM 12 cX12_qSums 3 none Γ) (hd : 6 ≤ fhD Γ)   (σ : fhM) (o : fhM) (h : f_X12_qSums σ = some o) (hk : (fun o => fhRet Γ none o) o) : fhW fhYM Γ 0 [(0, .ref 0)] [] σ := by
  unfold f_X12_qSums at h
  refine fhW.blk fhPM fhLL hΓ [(.aload_n 0, 0), (.getfield 359, 0), (.istore_n 1, 0), (.aload_n 0, 0), (.aload_n 0, 0), (.getfield 353, 0), (.putfield 359, 0), (.iconst 1, 1), (.istore_n 2, 0)] (pc' := 15) (lv' := [(2, .int (1 : Int32)), (1, .int (σ.1 0 103)), (0, .ref 0)]) (st' := []) (σ' := (fhI σ 0 103 (σ.1 0 101))) (by decide +kernel) rfl rfl rfl ?_
  refine fhW.sub (lv' := [(0, .ref 0), (1, .int (σ.1 0 103)), (2, .int (1 : Int32))]) [2, 1, 0] rfl ?_
  exact fhlp_ok (W := (fun x => fhW fhYM Γ 15 [(0, .ref 0), (1, .int (σ.1 0 103)), (2, .int x.1)] [] x.2)) (B := (fun o => fhRet Γ none o)) (fun x o h hk => L_X12_qSums_15 hΓ hd (σ.1 0 103) x.1 x.2 o h hk) ((1 : Int32), (fhI σ 0 103 (σ.1 0 101))) _ h hk
set_option maxRecDepth 100000 in
theorem T_X12_qSums {E : fhE} {d : Nat} (hd : 6 ≤ d)   (σ : fhM) {o : fhM} (h : f_X12_qSums σ = some o) : fhC fhYM E d miX12_qSums [.ref 0] σ none o := by
  refine fhC.of (y := yX12_qSums) (cc := cX12_qSums) (nL := 3) (ret := none) 12 rfl (by decide +kernel) (Nat.le_of_ble_eq_true rfl) ?_
  intro Γ hΓ hR hD hEn
  subst hD; subst hEn
  exact L_X12_qSums_E hΓ hd   σ _ h hR
set_option maxRecDepth 100000 in
set_option maxHeartbeats 4000000 in
theorem L_X12_qFact_102 {Γ : fhX} (hΓ : fhOk fhYM 12 cX12_qFact 2 none Γ) (hd : 7 ≤ fhD Γ) (s0 : Int32)  (σ : fhM) (o : fhM) (h : f_X12_qFact_102 s0 σ = some o) (hk : (fun o => fhRet Γ none o) o) : fhW fhYM Γ 102 [] [.int s0, .ref 0] σ := by
  unfold f_X12_qFact_102 at h
  obtain ⟨q7, hb1, h⟩ := Option.bind_eq_some_iff.mp h
  refine fhW.callv hΓ mvX12_qCode ml_12_587 (t := 0) (ci := 12) (av := [.int s0]) (rest := []) (r := none) (σ' := q7) (T_X12_qCode (E := fhEn Γ) (d := fhD Γ - 1) (by omega) s0 σ hb1) (by omega) (by decide +kernel) rfl rfl rfl (Nat.le_of_ble_eq_true rfl) rfl ?_
  show fhW fhYM Γ 105 [] [] q7
  have e9 := Option.some.inj h
  subst e9
  exact fhW.vret hΓ (by decide +kernel) hk
set_option maxRecDepth 100000 in
set_option maxHeartbeats 4000000 in
theorem L_X12_qFact_63 {Γ : fhX} (hΓ : fhOk fhYM 12 cX12_qFact 2 none Γ) (hd : 7 ≤ fhD Γ) (v1 : Int32)  (σ : fhM) (o : fhM) (h : f_X12_qFact_63 v1 σ = some o) (hk : (fun o => fhRet Γ none o) o) : fhW fhYM Γ 63 [(0, .ref 0), (1, .int v1)] [] σ := by
  unfold f_X12_qFact_63 at h
  refine fhW.blk fhPM fhLL hΓ [(.aload_n 0, 0), (.dup, 0), (.getfield 268, 0), (.iconst 1, 1), (.iadd, 0), (.putfield 268, 0), (.aload_n 0, 0)] (pc' := 74) (lv' := [(0, .ref 0), (1, .int v1)]) (st' := [.ref 0]) (σ' := (fhI σ 0 2 ((σ.1 0 2) + (1 : Int32)))) (by decide +kernel) rfl rfl rfl ?_
  obtain ⟨q6, hb2, h⟩ := Option.bind_eq_some_iff.mp h
  refine fhW.callv hΓ mvX12_qSums ml_12_632 (t := 0) (ci := 12) (av := []) (rest := []) (r := none) (σ' := q6) (T_X12_qSums (E := fhEn Γ) (d := fhD Γ - 1) (by omega) (fhI σ 0 2 ((σ.1 0 2) + (1 : Int32))) hb2) (by omega) (by decide +kernel) rfl rfl rfl (Nat.le_of_ble_eq_true rfl) rfl ?_
  show fhW fhYM Γ 77 [(0, .ref 0), (1, .int v1)] [] q6
  refine fhW.blk fhPM fhLL hΓ [(.aload_n 0, 0), (.iload_n 1, 0), (.bipush 60, 60)] (pc' := 81) (lv' := [(0, .ref 0), (1, .int v1)]) (st' := [.int (60 : Int32), .int v1, .ref 0]) (σ' := q6) (by decide +kernel) rfl rfl rfl ?_
  refine fhW.i_ne hΓ (tgt := 89) (show fhbk _ _ (.if_icmp .ne (8)) _ = true by decide +kernel) (fun hc => ?_) (fun hc => ?_)
  · simp only [if_neg hc] at h
    refine fhW.blk fhPM fhLL hΓ [(.iload_n 1, 0), (.bipush 62, 62)] (pc' := 92) (lv' := [(0, .ref 0), (1, .int v1)]) (st' := [.int (62 : Int32), .int v1, .ref 0]) (σ' := q6) (by decide +kernel) rfl rfl rfl ?_
    refine fhW.i_ne hΓ (tgt := 100) (show fhbk _ _ (.if_icmp .ne (8)) _ = true by decide +kernel) (fun hc => ?_) (fun hc => ?_)
    · simp only [if_neg hc] at h
      refine fhW.blk fhPM fhLL hΓ [(.bipush 9, 9)] (pc' := 102) (lv' := [(0, .ref 0), (1, .int v1)]) (st' := [.int (9 : Int32), .ref 0]) (σ' := q6) (by decide +kernel) rfl rfl rfl ?_
      refine fhW.sub (lv' := []) [] rfl ?_
      exact L_X12_qFact_102 hΓ hd (9 : Int32) q6 _ h hk
    · simp only [if_pos hc] at h
      refine fhW.blk fhPM fhLL hΓ [(.bipush 8, 8)] (pc' := 97) (lv' := [(0, .ref 0), (1, .int v1)]) (st' := [.int (8 : Int32), .ref 0]) (σ' := q6) (by decide +kernel) rfl rfl rfl ?_
      refine fhW.goto hΓ (off := 5) (tgt := 102) (by decide +kernel) ?_
      refine fhW.sub (lv' := []) [] rfl ?_
      exact L_X12_qFact_102 hΓ hd (8 : Int32) q6 _ h hk
  · simp only [if_pos hc] at h
    refine fhW.blk fhPM fhLL hΓ [(.bipush 7, 7)] (pc' := 86) (lv' := [(0, .ref 0), (1, .int v1)]) (st' := [.int (7 : Int32), .ref 0]) (σ' := q6) (by decide +kernel) rfl rfl rfl ?_
    refine fhW.goto hΓ (off := 16) (tgt := 102) (by decide +kernel) ?_
    refine fhW.sub (lv' := []) [] rfl ?_
    exact L_X12_qFact_102 hΓ hd (7 : Int32) q6 _ h hk
set_option maxRecDepth 100000 in
set_option maxHeartbeats 4000000 in
theorem L_X12_qFact_E {Γ : fhX} (hΓ : fhOk fhYM 12 cX12_qFact 2 none Γ) (hd : 7 ≤ fhD Γ)   (σ : fhM) (o : fhM) (h : f_X12_qFact σ = some o) (hk : (fun o => fhRet Γ none o) o) : fhW fhYM Γ 0 [(0, .ref 0)] [] σ := by
  unfold f_X12_qFact at h
  refine fhW.blk fhPM fhLL hΓ [(.aload_n 0, 0), (.aload_n 0, 0), (.getfield 202, 0)] (pc' := 5) (lv' := [(0, .ref 0)]) (st' := [.ref 61, .ref 0]) (σ' := σ) (by decide +kernel) rfl rfl rfl ?_
  obtain ⟨q1, hb3, h⟩ := Option.bind_eq_some_iff.mp h
  refine fhW.callv hΓ mvX12_takes ml_12_289 (t := 0) (ci := 12) (av := [.ref 61]) (rest := []) (r := (some (.int (fhb q1.1)))) (σ' := q1.2) (T_X12_takes (E := fhEn Γ) (d := fhD Γ - 1) (by omega) 61 rfl σ hb3) (by omega) (by decide +kernel) rfl rfl rfl (Nat.le_of_ble_eq_true rfl) rfl ?_
  show fhW fhYM Γ 8 [(0, .ref 0)] [.int (fhb q1.1)] q1.2
  refine fhW.b_eq hΓ (tgt := 18) (show fhbk _ _ (.ifCond .eq (10)) _ = true by decide +kernel) (fun hc => ?_) (fun hc => ?_)
  · rw [if_neg hc] at h
    refine fhW.blk fhPM fhLL hΓ [(.aload_n 0, 0)] (pc' := 19) (lv' := [(0, .ref 0)]) (st' := [.ref 0]) (σ' := q1.2) (by decide +kernel) rfl rfl rfl ?_
    obtain ⟨q2, hb4, h⟩ := Option.bind_eq_some_iff.mp h
    refine fhW.callv hΓ mvX12_qSums ml_12_632 (t := 0) (ci := 12) (av := []) (rest := []) (r := none) (σ' := q2) (T_X12_qSums (E := fhEn Γ) (d := fhD Γ - 1) (by omega) q1.2 hb4) (by omega) (by decide +kernel) rfl rfl rfl (Nat.le_of_ble_eq_true rfl) rfl ?_
    show fhW fhYM Γ 22 [(0, .ref 0)] [] q2
    refine fhW.blk fhPM fhLL hΓ [(.aload_n 0, 0), (.getfield 262, 0)] (pc' := 26) (lv' := [(0, .ref 0)]) (st' := [.int (q2.1 0 5)]) (σ' := q2) (by decide +kernel) rfl rfl rfl ?_
    refine fhW.z_eq hΓ (tgt := 30) (show fhbk _ _ (.ifCond .eq (4)) _ = true by decide +kernel) (fun hc => ?_) (fun hc => ?_)
    · rw [if_pos hc] at h
      refine fhW.blk fhPM fhLL hΓ [(.aload_n 0, 0)] (pc' := 31) (lv' := [(0, .ref 0)]) (st' := [.ref 0]) (σ' := q2) (by decide +kernel) rfl rfl rfl ?_
      obtain ⟨q3, hb5, h⟩ := Option.bind_eq_some_iff.mp h
      refine fhW.callv hΓ mvX12_look ml_12_274 (t := 0) (ci := 12) (av := []) (rest := []) (r := (some (.int q3.1))) (σ' := q3.2) (T_X12_look (E := fhEn Γ) (d := fhD Γ - 1) (by omega) q2 hb5) (by omega) (by decide +kernel) rfl rfl rfl (Nat.le_of_ble_eq_true rfl) rfl ?_
      show fhW fhYM Γ 34 [(0, .ref 0)] [.int q3.1] q3.2
      refine fhW.blk fhPM fhLL hΓ [(.istore_n 1, 0), (.iload_n 1, 0), (.bipush 60, 60)] (pc' := 38) (lv' := [(1, .int q3.1), (0, .ref 0)]) (st' := [.int (60 : Int32), .int q3.1]) (σ' := q3.2) (by decide +kernel) rfl rfl rfl ?_
      refine fhW.i_eq hΓ (tgt := 63) (show fhbk _ _ (.if_icmp .eq (25)) _ = true by decide +kernel) (fun hc => ?_) (fun hc => ?_)
      · rw [if_pos hc] at h
        refine fhW.sub (lv' := [(0, .ref 0), (1, .int q3.1)]) [1, 0] rfl ?_
        exact L_X12_qFact_63 hΓ hd q3.1 q3.2 _ h hk
      · rw [if_neg hc] at h
        refine fhW.blk fhPM fhLL hΓ [(.iload_n 1, 0), (.bipush 62, 62)] (pc' := 44) (lv' := [(1, .int q3.1), (0, .ref 0)]) (st' := [.int (62 : Int32), .int q3.1]) (σ' := q3.2) (by decide +kernel) rfl rfl rfl ?_
        refine fhW.i_eq hΓ (tgt := 63) (show fhbk _ _ (.if_icmp .eq (19)) _ = true by decide +kernel) (fun hc => ?_) (fun hc => ?_)
        · rw [if_pos hc] at h
          refine fhW.sub (lv' := [(0, .ref 0), (1, .int q3.1)]) [1, 0] rfl ?_
          exact L_X12_qFact_63 hΓ hd q3.1 q3.2 _ h hk
        · rw [if_neg hc] at h
          refine fhW.blk fhPM fhLL hΓ [(.iload_n 1, 0), (.bipush 61, 61)] (pc' := 50) (lv' := [(1, .int q3.1), (0, .ref 0)]) (st' := [.int (61 : Int32), .int q3.1]) (σ' := q3.2) (by decide +kernel) rfl rfl rfl ?_
          refine fhW.i_eq hΓ (tgt := 63) (show fhbk _ _ (.if_icmp .eq (13)) _ = true by decide +kernel) (fun hc => ?_) (fun hc => ?_)
          · rw [if_pos hc] at h
            refine fhW.sub (lv' := [(0, .ref 0), (1, .int q3.1)]) [1, 0] rfl ?_
            exact L_X12_qFact_63 hΓ hd q3.1 q3.2 _ h hk
          · rw [if_neg hc] at h
            refine fhW.blk fhPM fhLL hΓ [(.aload_n 0, 0), (.iconst 1, 1), (.aload_n 0, 0), (.getfield 268, 0)] (pc' := 59) (lv' := [(1, .int q3.1), (0, .ref 0)]) (st' := [.int (q3.2.1 0 2), .int (1 : Int32), .ref 0]) (σ' := q3.2) (by decide +kernel) rfl rfl rfl ?_
            refine fhW.callv hΓ mvX12_fail ml_12_292 (t := 0) (ci := 12) (av := [.int (1 : Int32), .int (q3.2.1 0 2)]) (rest := []) (r := none) (σ' := (f_X12_fail (1 : Int32) (q3.2.1 0 2) q3.2)) (T_X12_fail (E := fhEn Γ) (d := fhD Γ - 1) (by omega) (1 : Int32) (q3.2.1 0 2) q3.2) (by omega) (by decide +kernel) rfl rfl rfl (Nat.le_of_ble_eq_true rfl) rfl ?_
            show fhW fhYM Γ 62 [(1, .int q3.1), (0, .ref 0)] [] (f_X12_fail (1 : Int32) (q3.2.1 0 2) q3.2)
            obtain ⟨q4, e1, h⟩ := fhlet_elim h
            rw [← e1]
            have e9 := Option.some.inj h
            subst e9
            exact fhW.vret hΓ (by decide +kernel) hk
    · rw [if_neg hc] at h
      have e9 := Option.some.inj h
      subst e9
      exact fhW.vret hΓ (by decide +kernel) hk
  · rw [if_pos hc] at h
    refine fhW.blk fhPM fhLL hΓ [(.aload_n 0, 0), (.bipush 13, 13)] (pc' := 14) (lv' := [(0, .ref 0)]) (st' := [.int (13 : Int32), .ref 0]) (σ' := q1.2) (by decide +kernel) rfl rfl rfl ?_
    obtain ⟨q5, hb6, h⟩ := Option.bind_eq_some_iff.mp h
    refine fhW.callv hΓ mvX12_qCode ml_12_587 (t := 0) (ci := 12) (av := [.int (13 : Int32)]) (rest := []) (r := none) (σ' := q5) (T_X12_qCode (E := fhEn Γ) (d := fhD Γ - 1) (by omega) (13 : Int32) q1.2 hb6) (by omega) (by decide +kernel) rfl rfl rfl (Nat.le_of_ble_eq_true rfl) rfl ?_
    show fhW fhYM Γ 17 [(0, .ref 0)] [] q5
    have e9 := Option.some.inj h
    subst e9
    exact fhW.vret hΓ (by decide +kernel) hk
set_option maxRecDepth 100000 in
theorem T_X12_qFact {E : fhE} {d : Nat} (hd : 7 ≤ d)   (σ : fhM) {o : fhM} (h : f_X12_qFact σ = some o) : fhC fhYM E d miX12_qFact [.ref 0] σ none o := by
  refine fhC.of (y := yX12_qFact) (cc := cX12_qFact) (nL := 2) (ret := none) 12 rfl (by decide +kernel) (Nat.le_of_ble_eq_true rfl) ?_
  intro Γ hΓ hR hD hEn
  subst hD; subst hEn
  exact L_X12_qFact_E hΓ hd   σ _ h hR
set_option maxRecDepth 100000 in
set_option maxHeartbeats 4000000 in
theorem L_X12_qDropsNots_0 {Γ : fhX} (hΓ : fhOk fhYM 12 cX12_qDropsNots 1 none Γ) (hd : 2 ≤ fhD Γ)   (σ : fhM) (o : (fhM) ⊕ (fhM)) (h : f_X12_qDropsNots_0 σ = some o) (hk : (fhK (fun x => fhW fhYM Γ 0 [(0, .ref 0)] [] x) (fun o => fhRet Γ none o)) o) : fhW fhYM Γ 0 [(0, .ref 0)] [] σ := by
  unfold f_X12_qDropsNots_0 at h
  refine fhW.blk fhPM fhLL hΓ [(.aload_n 0, 0), (.getfield 262, 0)] (pc' := 4) (lv' := [(0, .ref 0)]) (st' := [.int (σ.1 0 5)]) (σ' := σ) (by decide +kernel) rfl rfl rfl ?_
  refine fhW.z_ne hΓ (tgt := 33) (show fhbk _ _ (.ifCond .ne (29)) _ = true by decide +kernel) (fun hc => ?_) (fun hc => ?_)
  · rw [if_neg hc] at h
    have e9 := Option.some.inj h
    subst e9
    exact fhW.vret hΓ (by decide +kernel) hk
  · rw [if_pos hc] at h
    refine fhW.blk fhPM fhLL hΓ [(.aload_n 0, 0), (.bipush 12, 12)] (pc' := 10) (lv' := [(0, .ref 0)]) (st' := [.int (12 : Int32), .ref 0]) (σ' := σ) (by decide +kernel) rfl rfl rfl ?_
    obtain ⟨q1, hb1, h⟩ := Option.bind_eq_some_iff.mp h
    refine fhW.callv hΓ mvX12_qIsOn ml_12_623 (t := 0) (ci := 12) (av := [.int (12 : Int32)]) (rest := []) (r := (some (.int (fhb q1)))) (σ' := σ) (T_X12_qIsOn (E := fhEn Γ) (d := fhD Γ - 1) (by omega) (12 : Int32) σ hb1) (by omega) (by decide +kernel) rfl rfl rfl (Nat.le_of_ble_eq_true rfl) rfl ?_
    show fhW fhYM Γ 13 [(0, .ref 0)] [.int (fhb q1)] σ
    refine fhW.b_eq hΓ (tgt := 33) (show fhbk _ _ (.ifCond .eq (20)) _ = true by decide +kernel) (fun hc => ?_) (fun hc => ?_)
    · rw [if_neg hc] at h
      have e9 := Option.some.inj h
      subst e9
      exact fhW.vret hΓ (by decide +kernel) hk
    · rw [if_pos hc] at h
      refine fhW.blk fhPM fhLL hΓ [(.aload_n 0, 0), (.dup, 0), (.getfield 356, 0), (.iconst 1, 1), (.isub, 0), (.putfield 356, 0), (.aload_n 0, 0)] (pc' := 27) (lv' := [(0, .ref 0)]) (st' := [.ref 0]) (σ' := (fhI σ 0 102 ((σ.1 0 102) - (1 : Int32)))) (by decide +kernel) rfl rfl rfl ?_
      obtain ⟨q2, hb2, h⟩ := Option.bind_eq_some_iff.mp h
      refine fhW.callv hΓ mvX12_qDrops ml_12_593 (t := 0) (ci := 12) (av := []) (rest := []) (r := none) (σ' := q2) (T_X12_qDrops (E := fhEn Γ) (d := fhD Γ - 1) (by omega) (fhI σ 0 102 ((σ.1 0 102) - (1 : Int32))) hb2) (by omega) (by decide +kernel) rfl rfl rfl (Nat.le_of_ble_eq_true rfl) rfl ?_
      show fhW fhYM Γ 30 [(0, .ref 0)] [] q2
      refine fhW.goto hΓ (off := (-30)) (tgt := 0) (by decide +kernel) ?_
      refine fhW.sub (lv' := [(0, .ref 0)]) [0] rfl ?_
      have e9 := Option.some.inj h
      subst e9
      exact hk
set_option maxRecDepth 100000 in
set_option maxHeartbeats 4000000 in
theorem L_X12_qDropsNots_E {Γ : fhX} (hΓ : fhOk fhYM 12 cX12_qDropsNots 1 none Γ) (hd : 2 ≤ fhD Γ)   (σ : fhM) (o : fhM) (h : f_X12_qDropsNots σ = some o) (hk : (fun o => fhRet Γ none o) o) : fhW fhYM Γ 0 [(0, .ref 0)] [] σ := by
  unfold f_X12_qDropsNots at h
  refine fhW.sub (lv' := [(0, .ref 0)]) [0] rfl ?_
  exact fhlp_ok (W := (fun x => fhW fhYM Γ 0 [(0, .ref 0)] [] x)) (B := (fun o => fhRet Γ none o)) (fun x o h hk => L_X12_qDropsNots_0 hΓ hd x o h hk) σ _ h hk
set_option maxRecDepth 100000 in
theorem T_X12_qDropsNots {E : fhE} {d : Nat} (hd : 2 ≤ d)   (σ : fhM) {o : fhM} (h : f_X12_qDropsNots σ = some o) : fhC fhYM E d miX12_qDropsNots [.ref 0] σ none o := by
  refine fhC.of (y := yX12_qDropsNots) (cc := cX12_qDropsNots) (nL := 1) (ret := none) 12 rfl (by decide +kernel) (Nat.le_of_ble_eq_true rfl) ?_
  intro Γ hΓ hR hD hEn
  subst hD; subst hEn
  exact L_X12_qDropsNots_E hΓ hd   σ _ h hR
set_option maxRecDepth 100000 in
set_option maxHeartbeats 4000000 in
theorem L_X12_qHasSquare_2 {Γ : fhX} (hΓ : fhOk fhYM 12 cX12_qHasSquare 2 (some .boolean) Γ) (hd : 0 ≤ fhD Γ) (v1 : Int32)  (σ : fhM) (o : (Int32) ⊕ (Bool)) (h : f_X12_qHasSquare_2 v1 σ = some o) (hk : (fhK (fun x => fhW fhYM Γ 2 [(0, .ref 0), (1, .int x)] [] σ) (fun o => fhRet Γ (some (.int (fhb o))) σ)) o) : fhW fhYM Γ 2 [(0, .ref 0), (1, .int v1)] [] σ := by
  unfold f_X12_qHasSquare_2 at h
  refine fhW.blk fhPM fhLL hΓ [(.iload_n 1, 0), (.aload_n 0, 0), (.getfield 353, 0)] (pc' := 7) (lv' := [(0, .ref 0), (1, .int v1)]) (st' := [.int (σ.1 0 101), .int v1]) (σ' := σ) (by decide +kernel) rfl rfl rfl ?_
  refine fhW.i_ge hΓ (tgt := 29) (show fhbk _ _ (.if_icmp .ge (22)) _ = true by decide +kernel) (fun hc => ?_) (fun hc => ?_)
  · rw [if_pos hc] at h
    refine fhW.blk fhPM fhLL hΓ [(.iconst 0, 0)] (pc' := 30) (lv' := [(0, .ref 0), (1, .int v1)]) (st' := [.int (0 : Int32)]) (σ' := σ) (by decide +kernel) rfl rfl rfl ?_
    have e9 := Option.some.inj h
    subst e9
    exact fhW.zret (v := false) hΓ (by decide +kernel) hk
  · rw [if_neg hc] at h
    obtain ⟨hg1, h⟩ := fhif h
    refine fhW.blk fhPM fhLL hΓ [(.aload_n 0, 0), (.getfield 250, 0), (.iload_n 1, 0), (.iaload, 0), (.bipush 25, 25)] (pc' := 18) (lv' := [(0, .ref 0), (1, .int v1)]) (st' := [.int (25 : Int32), .int (σ.1 77 (fhix v1))]) (σ' := σ) (by decide +kernel) rfl rfl hg1 ?_
    refine fhW.i_ne hΓ (tgt := 23) (show fhbk _ _ (.if_icmp .ne (5)) _ = true by decide +kernel) (fun hc => ?_) (fun hc => ?_)
    · rw [if_neg hc] at h
      refine fhW.blk fhPM fhLL hΓ [(.iinc 1 1, 1)] (pc' := 26) (lv' := [(1, .int (v1 + (1 : Int32))), (0, .ref 0)]) (st' := []) (σ' := σ) (by decide +kernel) rfl rfl rfl ?_
      refine fhW.goto hΓ (off := (-24)) (tgt := 2) (by decide +kernel) ?_
      refine fhW.sub (lv' := [(0, .ref 0), (1, .int (v1 + (1 : Int32)))]) [1, 0] rfl ?_
      have e9 := Option.some.inj h
      subst e9
      exact hk
    · rw [if_pos hc] at h
      refine fhW.blk fhPM fhLL hΓ [(.iconst 1, 1)] (pc' := 22) (lv' := [(0, .ref 0), (1, .int v1)]) (st' := [.int (1 : Int32)]) (σ' := σ) (by decide +kernel) rfl rfl rfl ?_
      have e9 := Option.some.inj h
      subst e9
      exact fhW.zret (v := true) hΓ (by decide +kernel) hk
set_option maxRecDepth 100000 in
set_option maxHeartbeats 4000000 in
theorem L_X12_qHasSquare_E {Γ : fhX} (hΓ : fhOk fhYM 12 cX12_qHasSquare 2 (some .boolean) Γ) (hd : 0 ≤ fhD Γ)   (σ : fhM) (o : Bool) (h : f_X12_qHasSquare σ = some o) (hk : (fun o => fhRet Γ (some (.int (fhb o))) σ) o) : fhW fhYM Γ 0 [(0, .ref 0)] [] σ := by
  unfold f_X12_qHasSquare at h
  refine fhW.blk fhPM fhLL hΓ [(.iconst 0, 0), (.istore_n 1, 0)] (pc' := 2) (lv' := [(1, .int (0 : Int32)), (0, .ref 0)]) (st' := []) (σ' := σ) (by decide +kernel) rfl rfl rfl ?_
  refine fhW.sub (lv' := [(0, .ref 0), (1, .int (0 : Int32))]) [1, 0] rfl ?_
  exact fhlp_ok (W := (fun x => fhW fhYM Γ 2 [(0, .ref 0), (1, .int x)] [] σ)) (B := (fun o => fhRet Γ (some (.int (fhb o))) σ)) (fun x o h hk => L_X12_qHasSquare_2 hΓ hd x σ o h hk) (0 : Int32) _ h hk
set_option maxRecDepth 100000 in
theorem T_X12_qHasSquare {E : fhE} {d : Nat} (hd : 0 ≤ d)   (σ : fhM) {o : Bool} (h : f_X12_qHasSquare σ = some o) : fhC fhYM E d miX12_qHasSquare [.ref 0] σ (some (.int (fhb o))) σ := by
  refine fhC.of (y := yX12_qHasSquare) (cc := cX12_qHasSquare) (nL := 2) (ret := (some .boolean)) 12 rfl (by decide +kernel) (Nat.le_of_ble_eq_true rfl) ?_
  intro Γ hΓ hR hD hEn
  subst hD; subst hEn
  exact L_X12_qHasSquare_E hΓ hd   σ _ h hR
set_option maxRecDepth 100000 in
set_option maxHeartbeats 4000000 in
theorem L_X12_qGoesOnTest_155 {Γ : fhX} (hΓ : fhOk fhYM 12 cX12_qGoesOnTest 1 (some .boolean) Γ) (hd : 3 ≤ fhD Γ)   (σ : fhM) (o : (fhM) ⊕ (Bool × fhM)) (h : f_X12_qGoesOnTest_155 σ = some o) (hk : (fhK (fun x => fhW fhYM Γ 137 [(0, .ref 0)] [] x) (fun o => fhRet Γ (some (.int (fhb o.1))) o.2)) o) : fhW fhYM Γ 155 [(0, .ref 0)] [] σ := by
  unfold f_X12_qGoesOnTest_155 at h
  refine fhW.blk fhPM fhLL hΓ [(.aload_n 0, 0)] (pc' := 156) (lv' := [(0, .ref 0)]) (st' := [.ref 0]) (σ' := σ) (by decide +kernel) rfl rfl rfl ?_
  obtain ⟨q14, hb1, h⟩ := Option.bind_eq_some_iff.mp h
  refine fhW.callv hΓ mvX12_qDrops ml_12_593 (t := 0) (ci := 12) (av := []) (rest := []) (r := none) (σ' := q14) (T_X12_qDrops (E := fhEn Γ) (d := fhD Γ - 1) (by omega) σ hb1) (by omega) (by decide +kernel) rfl rfl rfl (Nat.le_of_ble_eq_true rfl) rfl ?_
  show fhW fhYM Γ 159 [(0, .ref 0)] [] q14
  refine fhW.goto hΓ (off := (-22)) (tgt := 137) (by decide +kernel) ?_
  refine fhW.sub (lv' := [(0, .ref 0)]) [0] rfl ?_
  have e9 := Option.some.inj h
  subst e9
  exact hk
set_option maxRecDepth 100000 in
set_option maxHeartbeats 4000000 in
theorem L_X12_qGoesOnTest_137 {Γ : fhX} (hΓ : fhOk fhYM 12 cX12_qGoesOnTest 1 (some .boolean) Γ) (hd : 3 ≤ fhD Γ)   (σ : fhM) (o : (fhM) ⊕ (Bool × fhM)) (h : f_X12_qGoesOnTest_137 σ = some o) (hk : (fhK (fun x => fhW fhYM Γ 137 [(0, .ref 0)] [] x) (fun o => fhRet Γ (some (.int (fhb o.1))) o.2)) o) : fhW fhYM Γ 137 [(0, .ref 0)] [] σ := by
  unfold f_X12_qGoesOnTest_137 at h
  refine fhW.blk fhPM fhLL hΓ [(.aload_n 0, 0), (.bipush 10, 10)] (pc' := 140) (lv' := [(0, .ref 0)]) (st' := [.int (10 : Int32), .ref 0]) (σ' := σ) (by decide +kernel) rfl rfl rfl ?_
  obtain ⟨q10, hb2, h⟩ := Option.bind_eq_some_iff.mp h
  refine fhW.callv hΓ mvX12_qIsOn ml_12_623 (t := 0) (ci := 12) (av := [.int (10 : Int32)]) (rest := []) (r := (some (.int (fhb q10)))) (σ' := σ) (T_X12_qIsOn (E := fhEn Γ) (d := fhD Γ - 1) (by omega) (10 : Int32) σ hb2) (by omega) (by decide +kernel) rfl rfl rfl (Nat.le_of_ble_eq_true rfl) rfl ?_
  show fhW fhYM Γ 143 [(0, .ref 0)] [.int (fhb q10)] σ
  refine fhW.b_ne hΓ (tgt := 155) (show fhbk _ _ (.ifCond .ne (12)) _ = true by decide +kernel) (fun hc => ?_) (fun hc => ?_)
  · rw [if_pos hc] at h
    refine fhW.sub (lv' := [(0, .ref 0)]) [0] rfl ?_
    exact L_X12_qGoesOnTest_155 hΓ hd σ _ h hk
  · rw [if_neg hc] at h
    refine fhW.blk fhPM fhLL hΓ [(.aload_n 0, 0), (.bipush 11, 11)] (pc' := 149) (lv' := [(0, .ref 0)]) (st' := [.int (11 : Int32), .ref 0]) (σ' := σ) (by decide +kernel) rfl rfl rfl ?_
    obtain ⟨q11, hb3, h⟩ := Option.bind_eq_some_iff.mp h
    refine fhW.callv hΓ mvX12_qIsOn ml_12_623 (t := 0) (ci := 12) (av := [.int (11 : Int32)]) (rest := []) (r := (some (.int (fhb q11)))) (σ' := σ) (T_X12_qIsOn (E := fhEn Γ) (d := fhD Γ - 1) (by omega) (11 : Int32) σ hb3) (by omega) (by decide +kernel) rfl rfl rfl (Nat.le_of_ble_eq_true rfl) rfl ?_
    show fhW fhYM Γ 152 [(0, .ref 0)] [.int (fhb q11)] σ
    refine fhW.b_eq hΓ (tgt := 162) (show fhbk _ _ (.ifCond .eq (10)) _ = true by decide +kernel) (fun hc => ?_) (fun hc => ?_)
    · rw [if_neg hc] at h
      obtain ⟨hg1, h⟩ := fhif h
      refine fhW.blk fhPM fhLL hΓ [(.aload_n 0, 0), (.getfield 250, 0), (.aload_n 0, 0), (.getfield 353, 0), (.bipush 11, 11), (.iastore, 0), (.aload_n 0, 0), (.dup, 0), (.getfield 353, 0), (.iconst 1, 1), (.iadd, 0), (.putfield 353, 0), (.iconst 1, 1)] (pc' := 184) (lv' := [(0, .ref 0)]) (st' := [.int (1 : Int32)]) (σ' := (fhI (fhI σ 77 (fhix (σ.1 0 101)) (11 : Int32)) 0 101 ((σ.1 0 101) + (1 : Int32)))) (by decide +kernel) rfl rfl hg1 ?_
      have e9 := Option.some.inj h
      subst e9
      exact fhW.zret (v := true) hΓ (by decide +kernel) hk
    · rw [if_pos hc] at h
      refine fhW.sub (lv' := [(0, .ref 0)]) [0] rfl ?_
      exact L_X12_qGoesOnTest_155 hΓ hd σ _ h hk
set_option maxRecDepth 100000 in
set_option maxHeartbeats 4000000 in
theorem L_X12_qGoesOnTest_87 {Γ : fhX} (hΓ : fhOk fhYM 12 cX12_qGoesOnTest 1 (some .boolean) Γ) (hd : 3 ≤ fhD Γ)   (σ : fhM) (o : (fhM) ⊕ (Bool × fhM)) (h : f_X12_qGoesOnTest_87 σ = some o) (hk : (fhK (fun x => fhW fhYM Γ 87 [(0, .ref 0)] [] x) (fun o => fhRet Γ (some (.int (fhb o.1))) o.2)) o) : fhW fhYM Γ 87 [(0, .ref 0)] [] σ := by
  unfold f_X12_qGoesOnTest_87 at h
  refine fhW.blk fhPM fhLL hΓ [(.aload_n 0, 0), (.bipush 10, 10)] (pc' := 90) (lv' := [(0, .ref 0)]) (st' := [.int (10 : Int32), .ref 0]) (σ' := σ) (by decide +kernel) rfl rfl rfl ?_
  obtain ⟨q12, hb4, h⟩ := Option.bind_eq_some_iff.mp h
  refine fhW.callv hΓ mvX12_qIsOn ml_12_623 (t := 0) (ci := 12) (av := [.int (10 : Int32)]) (rest := []) (r := (some (.int (fhb q12)))) (σ' := σ) (T_X12_qIsOn (E := fhEn Γ) (d := fhD Γ - 1) (by omega) (10 : Int32) σ hb4) (by omega) (by decide +kernel) rfl rfl rfl (Nat.le_of_ble_eq_true rfl) rfl ?_
  show fhW fhYM Γ 93 [(0, .ref 0)] [.int (fhb q12)] σ
  refine fhW.b_eq hΓ (tgt := 103) (show fhbk _ _ (.ifCond .eq (10)) _ = true by decide +kernel) (fun hc => ?_) (fun hc => ?_)
  · rw [if_neg hc] at h
    obtain ⟨hg2, h⟩ := fhif h
    refine fhW.blk fhPM fhLL hΓ [(.aload_n 0, 0), (.getfield 250, 0), (.aload_n 0, 0), (.getfield 353, 0), (.bipush 10, 10), (.iastore, 0), (.aload_n 0, 0), (.dup, 0), (.getfield 353, 0), (.iconst 1, 1), (.iadd, 0), (.putfield 353, 0), (.iconst 1, 1)] (pc' := 125) (lv' := [(0, .ref 0)]) (st' := [.int (1 : Int32)]) (σ' := (fhI (fhI σ 77 (fhix (σ.1 0 101)) (10 : Int32)) 0 101 ((σ.1 0 101) + (1 : Int32)))) (by decide +kernel) rfl rfl hg2 ?_
    have e9 := Option.some.inj h
    subst e9
    exact fhW.zret (v := true) hΓ (by decide +kernel) hk
  · rw [if_pos hc] at h
    refine fhW.blk fhPM fhLL hΓ [(.aload_n 0, 0)] (pc' := 97) (lv' := [(0, .ref 0)]) (st' := [.ref 0]) (σ' := σ) (by decide +kernel) rfl rfl rfl ?_
    obtain ⟨q13, hb5, h⟩ := Option.bind_eq_some_iff.mp h
    refine fhW.callv hΓ mvX12_qDrops ml_12_593 (t := 0) (ci := 12) (av := []) (rest := []) (r := none) (σ' := q13) (T_X12_qDrops (E := fhEn Γ) (d := fhD Γ - 1) (by omega) σ hb5) (by omega) (by decide +kernel) rfl rfl rfl (Nat.le_of_ble_eq_true rfl) rfl ?_
    show fhW fhYM Γ 100 [(0, .ref 0)] [] q13
    refine fhW.goto hΓ (off := (-13)) (tgt := 87) (by decide +kernel) ?_
    refine fhW.sub (lv' := [(0, .ref 0)]) [0] rfl ?_
    have e9 := Option.some.inj h
    subst e9
    exact hk
set_option maxRecDepth 100000 in
set_option maxHeartbeats 4000000 in
theorem L_X12_qGoesOnTest_76 {Γ : fhX} (hΓ : fhOk fhYM 12 cX12_qGoesOnTest 1 (some .boolean) Γ) (hd : 3 ≤ fhD Γ)   (σ : fhM) (o : Bool × fhM) (h : f_X12_qGoesOnTest_76 σ = some o) (hk : (fun o => fhRet Γ (some (.int (fhb o.1))) o.2) o) : fhW fhYM Γ 76 [(0, .ref 0)] [] σ := by
  unfold f_X12_qGoesOnTest_76 at h
  refine fhW.blk fhPM fhLL hΓ [(.aload_n 0, 0), (.aload_n 0, 0), (.getfield 196, 0)] (pc' := 81) (lv' := [(0, .ref 0)]) (st' := [.ref 59, .ref 0]) (σ' := σ) (by decide +kernel) rfl rfl rfl ?_
  obtain ⟨q3, hb6, h⟩ := Option.bind_eq_some_iff.mp h
  refine fhW.callv hΓ mvX12_takes ml_12_289 (t := 0) (ci := 12) (av := [.ref 59]) (rest := []) (r := (some (.int (fhb q3.1)))) (σ' := q3.2) (T_X12_takes (E := fhEn Γ) (d := fhD Γ - 1) (by omega) 59 rfl σ hb6) (by omega) (by decide +kernel) rfl rfl rfl (Nat.le_of_ble_eq_true rfl) rfl ?_
  show fhW fhYM Γ 84 [(0, .ref 0)] [.int (fhb q3.1)] q3.2
  refine fhW.b_eq hΓ (tgt := 126) (show fhbk _ _ (.ifCond .eq (42)) _ = true by decide +kernel) (fun hc => ?_) (fun hc => ?_)
  · rw [if_neg hc] at h
    refine fhW.blk fhPM fhLL hΓ [(.aload_n 0, 0), (.aload_n 0, 0), (.getfield 199, 0)] (pc' := 131) (lv' := [(0, .ref 0)]) (st' := [.ref 60, .ref 0]) (σ' := q3.2) (by decide +kernel) rfl rfl rfl ?_
    obtain ⟨q4, hb7, h⟩ := Option.bind_eq_some_iff.mp h
    refine fhW.callv hΓ mvX12_takes ml_12_289 (t := 0) (ci := 12) (av := [.ref 60]) (rest := []) (r := (some (.int (fhb q4.1)))) (σ' := q4.2) (T_X12_takes (E := fhEn Γ) (d := fhD Γ - 1) (by omega) 60 rfl q3.2 hb7) (by omega) (by decide +kernel) rfl rfl rfl (Nat.le_of_ble_eq_true rfl) rfl ?_
    show fhW fhYM Γ 134 [(0, .ref 0)] [.int (fhb q4.1)] q4.2
    refine fhW.b_eq hΓ (tgt := 185) (show fhbk _ _ (.ifCond .eq (51)) _ = true by decide +kernel) (fun hc => ?_) (fun hc => ?_)
    · rw [if_neg hc] at h
      refine fhW.blk fhPM fhLL hΓ [(.aload_n 0, 0), (.getfield 262, 0)] (pc' := 189) (lv' := [(0, .ref 0)]) (st' := [.int (q4.2.1 0 5)]) (σ' := q4.2) (by decide +kernel) rfl rfl rfl ?_
      refine fhW.z_ne hΓ (tgt := 208) (show fhbk _ _ (.ifCond .ne (19)) _ = true by decide +kernel) (fun hc => ?_) (fun hc => ?_)
      · rw [if_neg hc] at h
        refine fhW.blk fhPM fhLL hΓ [(.iconst 0, 0)] (pc' := 209) (lv' := [(0, .ref 0)]) (st' := [.int (0 : Int32)]) (σ' := q4.2) (by decide +kernel) rfl rfl rfl ?_
        have e9 := Option.some.inj h
        subst e9
        exact fhW.zret (v := false) hΓ (by decide +kernel) hk
      · rw [if_pos hc] at h
        refine fhW.blk fhPM fhLL hΓ [(.aload_n 0, 0)] (pc' := 193) (lv' := [(0, .ref 0)]) (st' := [.ref 0]) (σ' := q4.2) (by decide +kernel) rfl rfl rfl ?_
        obtain ⟨q5, hb8, h⟩ := Option.bind_eq_some_iff.mp h
        refine fhW.callv hΓ mvX12_qHasSquare ml_12_644 (t := 0) (ci := 12) (av := []) (rest := []) (r := (some (.int (fhb q5)))) (σ' := q4.2) (T_X12_qHasSquare (E := fhEn Γ) (d := fhD Γ - 1) (by omega) q4.2 hb8) (by omega) (by decide +kernel) rfl rfl rfl (Nat.le_of_ble_eq_true rfl) rfl ?_
        show fhW fhYM Γ 196 [(0, .ref 0)] [.int (fhb q5)] q4.2
        refine fhW.b_eq hΓ (tgt := 208) (show fhbk _ _ (.ifCond .eq (12)) _ = true by decide +kernel) (fun hc => ?_) (fun hc => ?_)
        · rw [if_neg hc] at h
          refine fhW.blk fhPM fhLL hΓ [(.iconst 0, 0)] (pc' := 209) (lv' := [(0, .ref 0)]) (st' := [.int (0 : Int32)]) (σ' := q4.2) (by decide +kernel) rfl rfl rfl ?_
          have e9 := Option.some.inj h
          subst e9
          exact fhW.zret (v := false) hΓ (by decide +kernel) hk
        · rw [if_pos hc] at h
          refine fhW.blk fhPM fhLL hΓ [(.aload_n 0, 0), (.iconst 1, 1), (.aload_n 0, 0), (.getfield 268, 0)] (pc' := 205) (lv' := [(0, .ref 0)]) (st' := [.int (q4.2.1 0 2), .int (1 : Int32), .ref 0]) (σ' := q4.2) (by decide +kernel) rfl rfl rfl ?_
          refine fhW.callv hΓ mvX12_fail ml_12_292 (t := 0) (ci := 12) (av := [.int (1 : Int32), .int (q4.2.1 0 2)]) (rest := []) (r := none) (σ' := (f_X12_fail (1 : Int32) (q4.2.1 0 2) q4.2)) (T_X12_fail (E := fhEn Γ) (d := fhD Γ - 1) (by omega) (1 : Int32) (q4.2.1 0 2) q4.2) (by omega) (by decide +kernel) rfl rfl rfl (Nat.le_of_ble_eq_true rfl) rfl ?_
          show fhW fhYM Γ 208 [(0, .ref 0)] [] (f_X12_fail (1 : Int32) (q4.2.1 0 2) q4.2)
          obtain ⟨q6, e1, h⟩ := fhlet_elim h
          rw [← e1]
          refine fhW.blk fhPM fhLL hΓ [(.iconst 0, 0)] (pc' := 209) (lv' := [(0, .ref 0)]) (st' := [.int (0 : Int32)]) (σ' := q6) (by decide +kernel) rfl rfl rfl ?_
          have e9 := Option.some.inj h
          subst e9
          exact fhW.zret (v := false) hΓ (by decide +kernel) hk
    · rw [if_pos hc] at h
      refine fhW.sub (lv' := [(0, .ref 0)]) [0] rfl ?_
      exact fhlp_ok (W := (fun x => fhW fhYM Γ 137 [(0, .ref 0)] [] x)) (B := (fun o => fhRet Γ (some (.int (fhb o.1))) o.2)) (fun x o h hk => L_X12_qGoesOnTest_137 hΓ hd x o h hk) q4.2 _ h hk
  · rw [if_pos hc] at h
    refine fhW.sub (lv' := [(0, .ref 0)]) [0] rfl ?_
    exact fhlp_ok (W := (fun x => fhW fhYM Γ 87 [(0, .ref 0)] [] x)) (B := (fun o => fhRet Γ (some (.int (fhb o.1))) o.2)) (fun x o h hk => L_X12_qGoesOnTest_87 hΓ hd x o h hk) q3.2 _ h hk
set_option maxRecDepth 100000 in
set_option maxHeartbeats 4000000 in
theorem L_X12_qGoesOnTest_33 {Γ : fhX} (hΓ : fhOk fhYM 12 cX12_qGoesOnTest 1 (some .boolean) Γ) (hd : 3 ≤ fhD Γ)   (σ : fhM) (o : (fhM) ⊕ ((fhM) ⊕ (Bool × fhM))) (h : f_X12_qGoesOnTest_33 σ = some o) (hk : (fhK (fun x => fhW fhYM Γ 33 [(0, .ref 0)] [] x) (fhK (fun x => fhW fhYM Γ 0 [(0, .ref 0)] [] x) (fun o => fhRet Γ (some (.int (fhb o.1))) o.2))) o) : fhW fhYM Γ 33 [(0, .ref 0)] [] σ := by
  unfold f_X12_qGoesOnTest_33 at h
  refine fhW.blk fhPM fhLL hΓ [(.aload_n 0, 0), (.bipush 25, 25)] (pc' := 36) (lv' := [(0, .ref 0)]) (st' := [.int (25 : Int32), .ref 0]) (σ' := σ) (by decide +kernel) rfl rfl rfl ?_
  obtain ⟨q7, hb9, h⟩ := Option.bind_eq_some_iff.mp h
  refine fhW.callv hΓ mvX12_qIsOn ml_12_623 (t := 0) (ci := 12) (av := [.int (25 : Int32)]) (rest := []) (r := (some (.int (fhb q7)))) (σ' := σ) (T_X12_qIsOn (E := fhEn Γ) (d := fhD Γ - 1) (by omega) (25 : Int32) σ hb9) (by omega) (by decide +kernel) rfl rfl rfl (Nat.le_of_ble_eq_true rfl) rfl ?_
  show fhW fhYM Γ 39 [(0, .ref 0)] [.int (fhb q7)] σ
  refine fhW.b_ne hΓ (tgt := 49) (show fhbk _ _ (.ifCond .ne (10)) _ = true by decide +kernel) (fun hc => ?_) (fun hc => ?_)
  · rw [if_pos hc] at h
    refine fhW.blk fhPM fhLL hΓ [(.aload_n 0, 0), (.dup, 0), (.getfield 353, 0), (.iconst 1, 1), (.isub, 0), (.putfield 353, 0), (.aload_n 0, 0), (.dup, 0), (.getfield 356, 0), (.iconst 1, 1), (.isub, 0), (.putfield 356, 0), (.aload_n 0, 0)] (pc' := 70) (lv' := [(0, .ref 0)]) (st' := [.ref 0]) (σ' := (fhI (fhI σ 0 101 ((σ.1 0 101) - (1 : Int32))) 0 102 ((σ.1 0 102) - (1 : Int32)))) (by decide +kernel) rfl rfl rfl ?_
    obtain ⟨q8, hb10, h⟩ := Option.bind_eq_some_iff.mp h
    refine fhW.callv hΓ mvX12_qDropsNots ml_12_638 (t := 0) (ci := 12) (av := []) (rest := []) (r := none) (σ' := q8) (T_X12_qDropsNots (E := fhEn Γ) (d := fhD Γ - 1) (by omega) (fhI (fhI σ 0 101 ((σ.1 0 101) - (1 : Int32))) 0 102 ((σ.1 0 102) - (1 : Int32))) hb10) (by omega) (by decide +kernel) rfl rfl rfl (Nat.le_of_ble_eq_true rfl) rfl ?_
    show fhW fhYM Γ 73 [(0, .ref 0)] [] q8
    refine fhW.goto hΓ (off := (-73)) (tgt := 0) (by decide +kernel) ?_
    refine fhW.sub (lv' := [(0, .ref 0)]) [0] rfl ?_
    have e9 := Option.some.inj h
    subst e9
    exact hk
  · rw [if_neg hc] at h
    refine fhW.blk fhPM fhLL hΓ [(.aload_n 0, 0)] (pc' := 43) (lv' := [(0, .ref 0)]) (st' := [.ref 0]) (σ' := σ) (by decide +kernel) rfl rfl rfl ?_
    obtain ⟨q9, hb11, h⟩ := Option.bind_eq_some_iff.mp h
    refine fhW.callv hΓ mvX12_qDrops ml_12_593 (t := 0) (ci := 12) (av := []) (rest := []) (r := none) (σ' := q9) (T_X12_qDrops (E := fhEn Γ) (d := fhD Γ - 1) (by omega) σ hb11) (by omega) (by decide +kernel) rfl rfl rfl (Nat.le_of_ble_eq_true rfl) rfl ?_
    show fhW fhYM Γ 46 [(0, .ref 0)] [] q9
    refine fhW.goto hΓ (off := (-13)) (tgt := 33) (by decide +kernel) ?_
    refine fhW.sub (lv' := [(0, .ref 0)]) [0] rfl ?_
    have e9 := Option.some.inj h
    subst e9
    exact hk
set_option maxRecDepth 100000 in
set_option maxHeartbeats 4000000 in
theorem L_X12_qGoesOnTest_0 {Γ : fhX} (hΓ : fhOk fhYM 12 cX12_qGoesOnTest 1 (some .boolean) Γ) (hd : 3 ≤ fhD Γ)   (σ : fhM) (o : (fhM) ⊕ (Bool × fhM)) (h : f_X12_qGoesOnTest_0 σ = some o) (hk : (fhK (fun x => fhW fhYM Γ 0 [(0, .ref 0)] [] x) (fun o => fhRet Γ (some (.int (fhb o.1))) o.2)) o) : fhW fhYM Γ 0 [(0, .ref 0)] [] σ := by
  unfold f_X12_qGoesOnTest_0 at h
  refine fhW.blk fhPM fhLL hΓ [(.aload_n 0, 0), (.getfield 262, 0)] (pc' := 4) (lv' := [(0, .ref 0)]) (st' := [.int (σ.1 0 5)]) (σ' := σ) (by decide +kernel) rfl rfl rfl ?_
  refine fhW.z_ne hΓ (tgt := 76) (show fhbk _ _ (.ifCond .ne (72)) _ = true by decide +kernel) (fun hc => ?_) (fun hc => ?_)
  · rw [if_neg hc] at h
    refine fhW.sub (lv' := [(0, .ref 0)]) [0] rfl ?_
    obtain ⟨z1, hz, e2⟩ := Option.map_eq_some_iff.mp h
    clear h
    subst e2
    have h := hz
    have hk : (fun o => fhRet Γ (some (.int (fhb o.1))) o.2) z1 := hk
    exact L_X12_qGoesOnTest_76 hΓ hd σ _ h hk
  · rw [if_pos hc] at h
    refine fhW.blk fhPM fhLL hΓ [(.aload_n 0, 0)] (pc' := 8) (lv' := [(0, .ref 0)]) (st' := [.ref 0]) (σ' := σ) (by decide +kernel) rfl rfl rfl ?_
    obtain ⟨q1, hb12, h⟩ := Option.bind_eq_some_iff.mp h
    refine fhW.callv hΓ mvX12_look ml_12_274 (t := 0) (ci := 12) (av := []) (rest := []) (r := (some (.int q1.1))) (σ' := q1.2) (T_X12_look (E := fhEn Γ) (d := fhD Γ - 1) (by omega) σ hb12) (by omega) (by decide +kernel) rfl rfl rfl (Nat.le_of_ble_eq_true rfl) rfl ?_
    show fhW fhYM Γ 11 [(0, .ref 0)] [.int q1.1] q1.2
    refine fhW.blk fhPM fhLL hΓ [(.bipush 93, 93)] (pc' := 13) (lv' := [(0, .ref 0)]) (st' := [.int (93 : Int32), .int q1.1]) (σ' := q1.2) (by decide +kernel) rfl rfl rfl ?_
    refine fhW.i_ne hΓ (tgt := 76) (show fhbk _ _ (.if_icmp .ne (63)) _ = true by decide +kernel) (fun hc => ?_) (fun hc => ?_)
    · rw [if_neg hc] at h
      refine fhW.sub (lv' := [(0, .ref 0)]) [0] rfl ?_
      obtain ⟨z2, hz, e3⟩ := Option.map_eq_some_iff.mp h
      clear h
      subst e3
      have h := hz
      have hk : (fun o => fhRet Γ (some (.int (fhb o.1))) o.2) z2 := hk
      exact L_X12_qGoesOnTest_76 hΓ hd q1.2 _ h hk
    · rw [if_pos hc] at h
      refine fhW.blk fhPM fhLL hΓ [(.aload_n 0, 0)] (pc' := 17) (lv' := [(0, .ref 0)]) (st' := [.ref 0]) (σ' := q1.2) (by decide +kernel) rfl rfl rfl ?_
      obtain ⟨q2, hb13, h⟩ := Option.bind_eq_some_iff.mp h
      refine fhW.callv hΓ mvX12_qHasSquare ml_12_644 (t := 0) (ci := 12) (av := []) (rest := []) (r := (some (.int (fhb q2)))) (σ' := q1.2) (T_X12_qHasSquare (E := fhEn Γ) (d := fhD Γ - 1) (by omega) q1.2 hb13) (by omega) (by decide +kernel) rfl rfl rfl (Nat.le_of_ble_eq_true rfl) rfl ?_
      show fhW fhYM Γ 20 [(0, .ref 0)] [.int (fhb q2)] q1.2
      refine fhW.b_eq hΓ (tgt := 76) (show fhbk _ _ (.ifCond .eq (56)) _ = true by decide +kernel) (fun hc => ?_) (fun hc => ?_)
      · rw [if_neg hc] at h
        refine fhW.sub (lv' := [(0, .ref 0)]) [0] rfl ?_
        obtain ⟨z3, hz, e4⟩ := Option.map_eq_some_iff.mp h
        clear h
        subst e4
        have h := hz
        have hk : (fun o => fhRet Γ (some (.int (fhb o.1))) o.2) z3 := hk
        exact L_X12_qGoesOnTest_76 hΓ hd q1.2 _ h hk
      · rw [if_pos hc] at h
        refine fhW.blk fhPM fhLL hΓ [(.aload_n 0, 0), (.dup, 0), (.getfield 268, 0), (.iconst 1, 1), (.iadd, 0), (.putfield 268, 0)] (pc' := 33) (lv' := [(0, .ref 0)]) (st' := []) (σ' := (fhI q1.2 0 2 ((q1.2.1 0 2) + (1 : Int32)))) (by decide +kernel) rfl rfl rfl ?_
        refine fhW.sub (lv' := [(0, .ref 0)]) [0] rfl ?_
        exact fhlp_ok (W := (fun x => fhW fhYM Γ 33 [(0, .ref 0)] [] x)) (B := (fhK (fun x => fhW fhYM Γ 0 [(0, .ref 0)] [] x) (fun o => fhRet Γ (some (.int (fhb o.1))) o.2))) (fun x o h hk => L_X12_qGoesOnTest_33 hΓ hd x o h hk) (fhI q1.2 0 2 ((q1.2.1 0 2) + (1 : Int32))) _ h hk
set_option maxRecDepth 100000 in
set_option maxHeartbeats 4000000 in
theorem L_X12_qGoesOnTest_E {Γ : fhX} (hΓ : fhOk fhYM 12 cX12_qGoesOnTest 1 (some .boolean) Γ) (hd : 3 ≤ fhD Γ)   (σ : fhM) (o : Bool × fhM) (h : f_X12_qGoesOnTest σ = some o) (hk : (fun o => fhRet Γ (some (.int (fhb o.1))) o.2) o) : fhW fhYM Γ 0 [(0, .ref 0)] [] σ := by
  unfold f_X12_qGoesOnTest at h
  refine fhW.sub (lv' := [(0, .ref 0)]) [0] rfl ?_
  exact fhlp_ok (W := (fun x => fhW fhYM Γ 0 [(0, .ref 0)] [] x)) (B := (fun o => fhRet Γ (some (.int (fhb o.1))) o.2)) (fun x o h hk => L_X12_qGoesOnTest_0 hΓ hd x o h hk) σ _ h hk
set_option maxRecDepth 100000 in
theorem T_X12_qGoesOnTest {E : fhE} {d : Nat} (hd : 3 ≤ d)   (σ : fhM) {o : Bool × fhM} (h : f_X12_qGoesOnTest σ = some o) : fhC fhYM E d miX12_qGoesOnTest [.ref 0] σ (some (.int (fhb o.1))) o.2 := by
  refine fhC.of (y := yX12_qGoesOnTest) (cc := cX12_qGoesOnTest) (nL := 1) (ret := (some .boolean)) 12 rfl (by decide +kernel) (Nat.le_of_ble_eq_true rfl) ?_
  intro Γ hΓ hR hD hEn
  subst hD; subst hEn
  exact L_X12_qGoesOnTest_E hΓ hd   σ _ h hR
set_option maxRecDepth 100000 in
set_option maxHeartbeats 4000000 in
theorem L_X12_qTest_110 {Γ : fhX} (hΓ : fhOk fhYM 12 cX12_qTest 3 none Γ) (hd : 8 ≤ fhD Γ)   (σ : fhM) (o : (fhM) ⊕ (fhM)) (h : f_X12_qTest_110 σ = some o) (hk : (fhK (fun x => fhW fhYM Γ 110 [(0, .ref 0)] [] x) (fun o => fhRet Γ none o)) o) : fhW fhYM Γ 110 [(0, .ref 0)] [] σ := by
  unfold f_X12_qTest_110 at h
  refine fhW.blk fhPM fhLL hΓ [(.aload_n 0, 0), (.getfield 262, 0)] (pc' := 114) (lv' := [(0, .ref 0)]) (st' := [.int (σ.1 0 5)]) (σ' := σ) (by decide +kernel) rfl rfl rfl ?_
  refine fhW.z_ne hΓ (tgt := 131) (show fhbk _ _ (.ifCond .ne (17)) _ = true by decide +kernel) (fun hc => ?_) (fun hc => ?_)
  · rw [if_neg hc] at h
    have e9 := Option.some.inj h
    subst e9
    exact fhW.vret hΓ (by decide +kernel) hk
  · rw [if_pos hc] at h
    refine fhW.blk fhPM fhLL hΓ [(.aload_n 0, 0), (.getfield 353, 0)] (pc' := 121) (lv' := [(0, .ref 0)]) (st' := [.int (σ.1 0 101)]) (σ' := σ) (by decide +kernel) rfl rfl rfl ?_
    refine fhW.z_le hΓ (tgt := 131) (show fhbk _ _ (.ifCond .le (10)) _ = true by decide +kernel) (fun hc => ?_) (fun hc => ?_)
    · rw [if_pos hc] at h
      have e9 := Option.some.inj h
      subst e9
      exact fhW.vret hΓ (by decide +kernel) hk
    · rw [if_neg hc] at h
      refine fhW.blk fhPM fhLL hΓ [(.aload_n 0, 0)] (pc' := 125) (lv' := [(0, .ref 0)]) (st' := [.ref 0]) (σ' := σ) (by decide +kernel) rfl rfl rfl ?_
      obtain ⟨q9, hb1, h⟩ := Option.bind_eq_some_iff.mp h
      refine fhW.callv hΓ mvX12_qDrops ml_12_593 (t := 0) (ci := 12) (av := []) (rest := []) (r := none) (σ' := q9) (T_X12_qDrops (E := fhEn Γ) (d := fhD Γ - 1) (by omega) σ hb1) (by omega) (by decide +kernel) rfl rfl rfl (Nat.le_of_ble_eq_true rfl) rfl ?_
      show fhW fhYM Γ 128 [(0, .ref 0)] [] q9
      refine fhW.goto hΓ (off := (-18)) (tgt := 110) (by decide +kernel) ?_
      refine fhW.sub (lv' := [(0, .ref 0)]) [0] rfl ?_
      have e9 := Option.some.inj h
      subst e9
      exact hk
set_option maxRecDepth 100000 in
set_option maxHeartbeats 4000000 in
theorem L_X12_qTest_106 {Γ : fhX} (hΓ : fhOk fhYM 12 cX12_qTest 3 none Γ) (hd : 8 ≤ fhD Γ) (s0 : Int32)  (σ : fhM) (o : (Int32 × fhM) ⊕ (fhM)) (h : f_X12_qTest_106 s0 σ = some o) (hk : (fhK (fun x => fhW fhYM Γ 2 [(0, .ref 0), (1, .int x.1)] [] x.2) (fun o => fhRet Γ none o)) o) : fhW fhYM Γ 106 [(0, .ref 0)] [.int s0] σ := by
  unfold f_X12_qTest_106 at h
  refine fhW.blk fhPM fhLL hΓ [(.istore_n 1, 0)] (pc' := 107) (lv' := [(1, .int s0), (0, .ref 0)]) (st' := []) (σ' := σ) (by decide +kernel) rfl rfl rfl ?_
  refine fhW.goto hΓ (off := (-105)) (tgt := 2) (by decide +kernel) ?_
  refine fhW.sub (lv' := [(0, .ref 0), (1, .int s0)]) [1, 0] rfl ?_
  have e9 := Option.some.inj h
  subst e9
  exact hk
set_option maxRecDepth 100000 in
set_option maxHeartbeats 4000000 in
theorem L_X12_qTest_105 {Γ : fhX} (hΓ : fhOk fhYM 12 cX12_qTest 3 none Γ) (hd : 8 ≤ fhD Γ)   (σ : fhM) (o : (Int32 × fhM) ⊕ (fhM)) (h : f_X12_qTest_105 σ = some o) (hk : (fhK (fun x => fhW fhYM Γ 2 [(0, .ref 0), (1, .int x.1)] [] x.2) (fun o => fhRet Γ none o)) o) : fhW fhYM Γ 105 [(0, .ref 0)] [] σ := by
  unfold f_X12_qTest_105 at h
  refine fhW.blk fhPM fhLL hΓ [(.iconst 0, 0)] (pc' := 106) (lv' := [(0, .ref 0)]) (st' := [.int (0 : Int32)]) (σ' := σ) (by decide +kernel) rfl rfl rfl ?_
  refine fhW.sub (lv' := [(0, .ref 0)]) [0] rfl ?_
  exact L_X12_qTest_106 hΓ hd (0 : Int32) σ _ h hk
set_option maxRecDepth 100000 in
set_option maxHeartbeats 4000000 in
theorem L_X12_qTest_2 {Γ : fhX} (hΓ : fhOk fhYM 12 cX12_qTest 3 none Γ) (hd : 8 ≤ fhD Γ) (v1 : Int32)  (σ : fhM) (o : (Int32 × fhM) ⊕ (fhM)) (h : f_X12_qTest_2 v1 σ = some o) (hk : (fhK (fun x => fhW fhYM Γ 2 [(0, .ref 0), (1, .int x.1)] [] x.2) (fun o => fhRet Γ none o)) o) : fhW fhYM Γ 2 [(0, .ref 0), (1, .int v1)] [] σ := by
  unfold f_X12_qTest_2 at h
  refine fhW.blk fhPM fhLL hΓ [(.iload_n 1, 0)] (pc' := 3) (lv' := [(0, .ref 0), (1, .int v1)]) (st' := [.int v1]) (σ' := σ) (by decide +kernel) rfl rfl rfl ?_
  refine fhW.z_eq hΓ (tgt := 110) (show fhbk _ _ (.ifCond .eq (107)) _ = true by decide +kernel) (fun hc => ?_) (fun hc => ?_)
  · rw [if_pos hc] at h
    refine fhW.sub (lv' := [(0, .ref 0)]) [0] rfl ?_
    obtain ⟨z1, hz, e1⟩ := Option.map_eq_some_iff.mp h
    clear h
    subst e1
    have h := hz
    have hk : (fun o => fhRet Γ none o) z1 := hk
    exact fhlp_ok (W := (fun x => fhW fhYM Γ 110 [(0, .ref 0)] [] x)) (B := (fun o => fhRet Γ none o)) (fun x o h hk => L_X12_qTest_110 hΓ hd x o h hk) σ _ h hk
  · rw [if_neg hc] at h
    refine fhW.blk fhPM fhLL hΓ [(.aload_n 0, 0), (.getfield 262, 0)] (pc' := 10) (lv' := [(0, .ref 0), (1, .int v1)]) (st' := [.int (σ.1 0 5)]) (σ' := σ) (by decide +kernel) rfl rfl rfl ?_
    refine fhW.z_ne hΓ (tgt := 110) (show fhbk _ _ (.ifCond .ne (100)) _ = true by decide +kernel) (fun hc => ?_) (fun hc => ?_)
    · rw [if_neg hc] at h
      refine fhW.sub (lv' := [(0, .ref 0)]) [0] rfl ?_
      obtain ⟨z2, hz, e2⟩ := Option.map_eq_some_iff.mp h
      clear h
      subst e2
      have h := hz
      have hk : (fun o => fhRet Γ none o) z2 := hk
      exact fhlp_ok (W := (fun x => fhW fhYM Γ 110 [(0, .ref 0)] [] x)) (B := (fun o => fhRet Γ none o)) (fun x o h hk => L_X12_qTest_110 hΓ hd x o h hk) σ _ h hk
    · rw [if_pos hc] at h
      refine fhW.blk fhPM fhLL hΓ [(.aload_n 0, 0)] (pc' := 14) (lv' := [(0, .ref 0), (1, .int v1)]) (st' := [.ref 0]) (σ' := σ) (by decide +kernel) rfl rfl rfl ?_
      obtain ⟨q1, hb2, h⟩ := Option.bind_eq_some_iff.mp h
      refine fhW.callv hΓ mvX12_look ml_12_274 (t := 0) (ci := 12) (av := []) (rest := []) (r := (some (.int q1.1))) (σ' := q1.2) (T_X12_look (E := fhEn Γ) (d := fhD Γ - 1) (by omega) σ hb2) (by omega) (by decide +kernel) rfl rfl rfl (Nat.le_of_ble_eq_true rfl) rfl ?_
      show fhW fhYM Γ 17 [(0, .ref 0), (1, .int v1)] [.int q1.1] q1.2
      refine fhW.blk fhPM fhLL hΓ [(.istore_n 2, 0), (.iload_n 2, 0), (.bipush 91, 91)] (pc' := 21) (lv' := [(2, .int q1.1), (0, .ref 0), (1, .int v1)]) (st' := [.int (91 : Int32), .int q1.1]) (σ' := q1.2) (by decide +kernel) rfl rfl rfl ?_
      refine fhW.i_ne hΓ (tgt := 47) (show fhbk _ _ (.if_icmp .ne (26)) _ = true by decide +kernel) (fun hc => ?_) (fun hc => ?_)
      · rw [if_neg hc] at h
        refine fhW.blk fhPM fhLL hΓ [(.aload_n 0, 0), (.aload_n 0, 0), (.getfield 193, 0)] (pc' := 52) (lv' := [(2, .int q1.1), (0, .ref 0), (1, .int v1)]) (st' := [.ref 58, .ref 0]) (σ' := q1.2) (by decide +kernel) rfl rfl rfl ?_
        obtain ⟨q2, hb3, h⟩ := Option.bind_eq_some_iff.mp h
        refine fhW.callv hΓ mvX12_isHere ml_12_285 (t := 0) (ci := 12) (av := [.ref 58]) (rest := []) (r := (some (.int (fhb q2.1)))) (σ' := q2.2) (T_X12_isHere (E := fhEn Γ) (d := fhD Γ - 1) (by omega) 58 rfl q1.2 hb3) (by omega) (by decide +kernel) rfl rfl rfl (Nat.le_of_ble_eq_true rfl) rfl ?_
        show fhW fhYM Γ 55 [(2, .int q1.1), (0, .ref 0), (1, .int v1)] [.int (fhb q2.1)] q2.2
        refine fhW.b_eq hΓ (tgt := 79) (show fhbk _ _ (.ifCond .eq (24)) _ = true by decide +kernel) (fun hc => ?_) (fun hc => ?_)
        · rw [if_neg hc] at h
          refine fhW.blk fhPM fhLL hΓ [(.aload_n 0, 0)] (pc' := 80) (lv' := [(2, .int q1.1), (0, .ref 0), (1, .int v1)]) (st' := [.ref 0]) (σ' := q2.2) (by decide +kernel) rfl rfl rfl ?_
          obtain ⟨q3, hb4, h⟩ := Option.bind_eq_some_iff.mp h
          refine fhW.callv hΓ mvX12_qFact ml_12_635 (t := 0) (ci := 12) (av := []) (rest := []) (r := none) (σ' := q3) (T_X12_qFact (E := fhEn Γ) (d := fhD Γ - 1) (by omega) q2.2 hb4) (by omega) (by decide +kernel) rfl rfl rfl (Nat.le_of_ble_eq_true rfl) rfl ?_
          show fhW fhYM Γ 83 [(2, .int q1.1), (0, .ref 0), (1, .int v1)] [] q3
          refine fhW.blk fhPM fhLL hΓ [(.aload_n 0, 0)] (pc' := 84) (lv' := [(2, .int q1.1), (0, .ref 0), (1, .int v1)]) (st' := [.ref 0]) (σ' := q3) (by decide +kernel) rfl rfl rfl ?_
          obtain ⟨q4, hb5, h⟩ := Option.bind_eq_some_iff.mp h
          refine fhW.callv hΓ mvX12_qDropsNots ml_12_638 (t := 0) (ci := 12) (av := []) (rest := []) (r := none) (σ' := q4) (T_X12_qDropsNots (E := fhEn Γ) (d := fhD Γ - 1) (by omega) q3 hb5) (by omega) (by decide +kernel) rfl rfl rfl (Nat.le_of_ble_eq_true rfl) rfl ?_
          show fhW fhYM Γ 87 [(2, .int q1.1), (0, .ref 0), (1, .int v1)] [] q4
          refine fhW.blk fhPM fhLL hΓ [(.aload_n 0, 0), (.getfield 262, 0)] (pc' := 91) (lv' := [(2, .int q1.1), (0, .ref 0), (1, .int v1)]) (st' := [.int (q4.1 0 5)]) (σ' := q4) (by decide +kernel) rfl rfl rfl ?_
          refine fhW.z_ne hΓ (tgt := 105) (show fhbk _ _ (.ifCond .ne (14)) _ = true by decide +kernel) (fun hc => ?_) (fun hc => ?_)
          · rw [if_neg hc] at h
            refine fhW.sub (lv' := [(0, .ref 0)]) [1] rfl ?_
            exact L_X12_qTest_105 hΓ hd q4 _ h hk
          · rw [if_pos hc] at h
            refine fhW.blk fhPM fhLL hΓ [(.aload_n 0, 0)] (pc' := 95) (lv' := [(2, .int q1.1), (0, .ref 0), (1, .int v1)]) (st' := [.ref 0]) (σ' := q4) (by decide +kernel) rfl rfl rfl ?_
            obtain ⟨q5, hb6, h⟩ := Option.bind_eq_some_iff.mp h
            refine fhW.callv hΓ mvX12_qGoesOnTest ml_12_641 (t := 0) (ci := 12) (av := []) (rest := []) (r := (some (.int (fhb q5.1)))) (σ' := q5.2) (T_X12_qGoesOnTest (E := fhEn Γ) (d := fhD Γ - 1) (by omega) q4 hb6) (by omega) (by decide +kernel) rfl rfl rfl (Nat.le_of_ble_eq_true rfl) rfl ?_
            show fhW fhYM Γ 98 [(2, .int q1.1), (0, .ref 0), (1, .int v1)] [.int (fhb q5.1)] q5.2
            refine fhW.b_eq hΓ (tgt := 105) (show fhbk _ _ (.ifCond .eq (7)) _ = true by decide +kernel) (fun hc => ?_) (fun hc => ?_)
            · rw [if_neg hc] at h
              refine fhW.sub (lv' := [(0, .ref 0)]) [1] rfl ?_
              exact L_X12_qTest_105 hΓ hd q5.2 _ h hk
            · rw [if_pos hc] at h
              refine fhW.blk fhPM fhLL hΓ [(.iconst 1, 1)] (pc' := 102) (lv' := [(2, .int q1.1), (0, .ref 0), (1, .int v1)]) (st' := [.int (1 : Int32)]) (σ' := q5.2) (by decide +kernel) rfl rfl rfl ?_
              refine fhW.goto hΓ (off := 4) (tgt := 106) (by decide +kernel) ?_
              refine fhW.sub (lv' := [(0, .ref 0)]) [1] rfl ?_
              exact L_X12_qTest_106 hΓ hd (1 : Int32) q5.2 _ h hk
        · rw [if_pos hc] at h
          refine fhW.blk fhPM fhLL hΓ [(.aload_n 0, 0), (.bipush 12, 12), (.aload_n 0, 0), (.getfield 268, 0)] (pc' := 65) (lv' := [(2, .int q1.1), (0, .ref 0), (1, .int v1)]) (st' := [.int (q2.2.1 0 2), .int (12 : Int32), .ref 0]) (σ' := q2.2) (by decide +kernel) rfl rfl rfl ?_
          obtain ⟨q6, hb7, h⟩ := Option.bind_eq_some_iff.mp h
          refine fhW.callv hΓ mvX12_qOpens ml_12_605 (t := 0) (ci := 12) (av := [.int (12 : Int32), .int (q2.2.1 0 2)]) (rest := []) (r := none) (σ' := q6) (T_X12_qOpens (E := fhEn Γ) (d := fhD Γ - 1) (by omega) (12 : Int32) (q2.2.1 0 2) q2.2 hb7) (by omega) (by decide +kernel) rfl rfl rfl (Nat.le_of_ble_eq_true rfl) rfl ?_
          show fhW fhYM Γ 68 [(2, .int q1.1), (0, .ref 0), (1, .int v1)] [] q6
          refine fhW.blk fhPM fhLL hΓ [(.aload_n 0, 0), (.aload_n 0, 0), (.getfield 193, 0)] (pc' := 73) (lv' := [(2, .int q1.1), (0, .ref 0), (1, .int v1)]) (st' := [.ref 58, .ref 0]) (σ' := q6) (by decide +kernel) rfl rfl rfl ?_
          obtain ⟨q7, hb8, h⟩ := Option.bind_eq_some_iff.mp h
          refine fhW.callv hΓ mvX12_asks ml_12_327 (t := 0) (ci := 12) (av := [.ref 58]) (rest := []) (r := none) (σ' := q7) (T_X12_asks (E := fhEn Γ) (d := fhD Γ - 1) (by omega) 58 rfl q6 hb8) (by omega) (by decide +kernel) rfl rfl rfl (Nat.le_of_ble_eq_true rfl) rfl ?_
          show fhW fhYM Γ 76 [(2, .int q1.1), (0, .ref 0), (1, .int v1)] [] q7
          refine fhW.goto hΓ (off := (-74)) (tgt := 2) (by decide +kernel) ?_
          refine fhW.sub (lv' := [(0, .ref 0), (1, .int v1)]) [1, 2] rfl ?_
          have e9 := Option.some.inj h
          subst e9
          exact hk
      · rw [if_pos hc] at h
        refine fhW.blk fhPM fhLL hΓ [(.aload_n 0, 0), (.bipush 25, 25), (.aload_n 0, 0), (.getfield 268, 0)] (pc' := 31) (lv' := [(2, .int q1.1), (0, .ref 0), (1, .int v1)]) (st' := [.int (q1.2.1 0 2), .int (25 : Int32), .ref 0]) (σ' := q1.2) (by decide +kernel) rfl rfl rfl ?_
        obtain ⟨q8, hb9, h⟩ := Option.bind_eq_some_iff.mp h
        refine fhW.callv hΓ mvX12_qOpens ml_12_605 (t := 0) (ci := 12) (av := [.int (25 : Int32), .int (q1.2.1 0 2)]) (rest := []) (r := none) (σ' := q8) (T_X12_qOpens (E := fhEn Γ) (d := fhD Γ - 1) (by omega) (25 : Int32) (q1.2.1 0 2) q1.2 hb9) (by omega) (by decide +kernel) rfl rfl rfl (Nat.le_of_ble_eq_true rfl) rfl ?_
        show fhW fhYM Γ 34 [(2, .int q1.1), (0, .ref 0), (1, .int v1)] [] q8
        refine fhW.blk fhPM fhLL hΓ [(.aload_n 0, 0), (.dup, 0), (.getfield 268, 0), (.iconst 1, 1), (.iadd, 0), (.putfield 268, 0)] (pc' := 44) (lv' := [(2, .int q1.1), (0, .ref 0), (1, .int v1)]) (st' := []) (σ' := (fhI q8 0 2 ((q8.1 0 2) + (1 : Int32)))) (by decide +kernel) rfl rfl rfl ?_
        refine fhW.goto hΓ (off := (-42)) (tgt := 2) (by decide +kernel) ?_
        refine fhW.sub (lv' := [(0, .ref 0), (1, .int v1)]) [1, 2] rfl ?_
        have e9 := Option.some.inj h
        subst e9
        exact hk
set_option maxRecDepth 100000 in
set_option maxHeartbeats 4000000 in
theorem L_X12_qTest_E {Γ : fhX} (hΓ : fhOk fhYM 12 cX12_qTest 3 none Γ) (hd : 8 ≤ fhD Γ)   (σ : fhM) (o : fhM) (h : f_X12_qTest σ = some o) (hk : (fun o => fhRet Γ none o) o) : fhW fhYM Γ 0 [(0, .ref 0)] [] σ := by
  unfold f_X12_qTest at h
  refine fhW.blk fhPM fhLL hΓ [(.iconst 1, 1), (.istore_n 1, 0)] (pc' := 2) (lv' := [(1, .int (1 : Int32)), (0, .ref 0)]) (st' := []) (σ' := σ) (by decide +kernel) rfl rfl rfl ?_
  refine fhW.sub (lv' := [(0, .ref 0), (1, .int (1 : Int32))]) [1, 0] rfl ?_
  exact fhlp_ok (W := (fun x => fhW fhYM Γ 2 [(0, .ref 0), (1, .int x.1)] [] x.2)) (B := (fun o => fhRet Γ none o)) (fun x o h hk => L_X12_qTest_2 hΓ hd x.1 x.2 o h hk) ((1 : Int32), σ) _ h hk
set_option maxRecDepth 100000 in
theorem T_X12_qTest {E : fhE} {d : Nat} (hd : 8 ≤ d)   (σ : fhM) {o : fhM} (h : f_X12_qTest σ = some o) : fhC fhYM E d miX12_qTest [.ref 0] σ none o := by
  refine fhC.of (y := yX12_qTest) (cc := cX12_qTest) (nL := 3) (ret := none) 12 rfl (by decide +kernel) (Nat.le_of_ble_eq_true rfl) ?_
  intro Γ hΓ hR hD hEn
  subst hD; subst hEn
  exact L_X12_qTest_E hΓ hd   σ _ h hR
set_option maxRecDepth 100000 in
set_option maxHeartbeats 4000000 in
theorem L_X12_testTold_81 {Γ : fhX} (hΓ : fhOk fhYM 12 cX12_testTold 6 none Γ) (hd : 9 ≤ fhD Γ) (v1 : Int32) (v4 : Int32) (v5 : Int32)  (σ : fhM) (o : (Int32 × fhM) ⊕ (fhM)) (h : f_X12_testTold_81 v1 v4 v5 σ = some o) (hk : (fhK (fun x => fhW fhYM Γ 81 [(0, .ref 0), (1, .int v1), (4, .int v4), (5, .int x.1)] [] x.2) (fun o => fhRet Γ none o)) o) : fhW fhYM Γ 81 [(0, .ref 0), (1, .int v1), (4, .int v4), (5, .int v5)] [] σ := by
  unfold f_X12_testTold_81 at h
  refine fhW.blk fhPM fhLL hΓ [(.iload 5, 0), (.aload_n 0, 0), (.getfield 350, 0)] (pc' := 87) (lv' := [(0, .ref 0), (1, .int v1), (4, .int v4), (5, .int v5)]) (st' := [.int (σ.1 0 99), .int v5]) (σ' := σ) (by decide +kernel) rfl rfl rfl ?_
  refine fhW.i_ge hΓ (tgt := 122) (show fhbk _ _ (.if_icmp .ge (35)) _ = true by decide +kernel) (fun hc => ?_) (fun hc => ?_)
  · rw [if_pos hc] at h
    obtain ⟨hg1, h⟩ := fhif h
    refine fhW.blk fhPM fhLL hΓ [(.aload_n 0, 0), (.getfield 115, 0), (.iload 4, 0), (.aload_n 0, 0), (.getfield 365, 0), (.iastore, 0), (.aload_n 0, 0), (.getfield 99, 0), (.iload_n 1, 0), (.dup2, 0), (.iaload, 0), (.iconst 1, 1), (.iadd, 0), (.iastore, 0)] (pc' := 143) (lv' := [(0, .ref 0), (1, .int v1), (4, .int v4), (5, .int v5)]) (st' := []) (σ' := (fhI (fhI σ 34 (fhix v4) (σ.1 0 45)) 29 (fhix v1) ((σ.1 29 (fhix v1)) + (1 : Int32)))) (by decide +kernel) rfl rfl hg1 ?_
    have e9 := Option.some.inj h
    subst e9
    exact fhW.vret hΓ (by decide +kernel) hk
  · rw [if_neg hc] at h
    obtain ⟨hg2, h⟩ := fhif h
    refine fhW.blk fhPM fhLL hΓ [(.aload_n 0, 0), (.getfield 118, 0), (.aload_n 0, 0), (.getfield 365, 0), (.aload_n 0, 0), (.getfield 247, 0), (.iload 5, 0), (.iaload, 0), (.iastore, 0), (.aload_n 0, 0), (.dup, 0), (.getfield 365, 0), (.iconst 1, 1), (.iadd, 0), (.putfield 365, 0), (.iinc 5 1, 1)] (pc' := 119) (lv' := [(5, .int (v5 + (1 : Int32))), (0, .ref 0), (1, .int v1), (4, .int v4)]) (st' := []) (σ' := (fhI (fhI σ 35 (fhix (σ.1 0 45)) (σ.1 76 (fhix v5))) 0 45 ((σ.1 0 45) + (1 : Int32)))) (by decide +kernel) rfl rfl hg2 ?_
    refine fhW.goto hΓ (off := (-38)) (tgt := 81) (by decide +kernel) ?_
    refine fhW.sub (lv' := [(0, .ref 0), (1, .int v1), (4, .int v4), (5, .int (v5 + (1 : Int32)))]) [1, 2, 3, 0] rfl ?_
    have e9 := Option.some.inj h
    subst e9
    exact hk
set_option maxRecDepth 100000 in
set_option maxHeartbeats 4000000 in
theorem L_X12_testTold_58 {Γ : fhX} (hΓ : fhOk fhYM 12 cX12_testTold 6 none Γ) (hd : 9 ≤ fhD Γ) (v1 : Int32) (s0 : Int32)  (σ : fhM) (o : fhM) (h : f_X12_testTold_58 v1 s0 σ = some o) (hk : (fun o => fhRet Γ none o) o) : fhW fhYM Γ 58 [(0, .ref 0), (1, .int v1)] [.int s0] σ := by
  unfold f_X12_testTold_58 at h
  obtain ⟨hg3, h⟩ := fhif h
  refine fhW.blk fhPM fhLL hΓ [(.aload_n 0, 0), (.getfield 99, 0), (.iload_n 1, 0), (.iaload, 0), (.iadd, 0), (.istore 4, 0), (.aload_n 0, 0), (.getfield 112, 0), (.iload 4, 0), (.aload_n 0, 0), (.getfield 365, 0), (.iastore, 0), (.iconst 0, 0), (.istore 5, 0)] (pc' := 81) (lv' := [(5, .int (0 : Int32)), (4, .int (s0 + (σ.1 29 (fhix v1)))), (0, .ref 0), (1, .int v1)]) (st' := []) (σ' := (fhI σ 33 (fhix (s0 + (σ.1 29 (fhix v1)))) (σ.1 0 45))) (by decide +kernel) rfl rfl hg3 ?_
  refine fhW.sub (lv' := [(0, .ref 0), (1, .int v1), (4, .int (s0 + (σ.1 29 (fhix v1)))), (5, .int (0 : Int32))]) [2, 3, 1, 0] rfl ?_
  exact fhlp_ok (W := (fun x => fhW fhYM Γ 81 [(0, .ref 0), (1, .int v1), (4, .int (s0 + (σ.1 29 (fhix v1)))), (5, .int x.1)] [] x.2)) (B := (fun o => fhRet Γ none o)) (fun x o h hk => L_X12_testTold_81 hΓ hd v1 (s0 + (σ.1 29 (fhix v1))) x.1 x.2 o h hk) ((0 : Int32), (fhI σ 33 (fhix (s0 + (σ.1 29 (fhix v1)))) (σ.1 0 45))) _ h hk
set_option maxRecDepth 100000 in
set_option maxHeartbeats 4000000 in
theorem L_X12_testTold_E {Γ : fhX} (hΓ : fhOk fhYM 12 cX12_testTold 6 none Γ) (hd : 9 ≤ fhD Γ) (v1 : Int32) (v2 : Int32) (v3 : Int32)  (σ : fhM) (o : fhM) (h : f_X12_testTold v1 v2 v3 σ = some o) (hk : (fun o => fhRet Γ none o) o) : fhW fhYM Γ 0 [(0, .ref 0), (1, .int v1), (2, .int v2), (3, .int v3)] [] σ := by
  unfold f_X12_testTold at h
  refine fhW.blk fhPM fhLL hΓ [(.aload_n 0, 0), (.iload_n 1, 0), (.iload_n 2, 0), (.iload_n 3, 0)] (pc' := 4) (lv' := [(0, .ref 0), (1, .int v1), (2, .int v2), (3, .int v3)]) (st' := [.int v3, .int v2, .int v1, .ref 0]) (σ' := σ) (by decide +kernel) rfl rfl rfl ?_
  obtain ⟨q1, hb1, h⟩ := Option.bind_eq_some_iff.mp h
  refine fhW.callv hΓ mvX12_isFull ml_12_339 (t := 0) (ci := 12) (av := [.int v1, .int v2, .int v3]) (rest := []) (r := (some (.int (fhb q1.1)))) (σ' := q1.2) (T_X12_isFull (E := fhEn Γ) (d := fhD Γ - 1) (by omega) v1 v2 v3 σ hb1) (by omega) (by decide +kernel) rfl rfl rfl (Nat.le_of_ble_eq_true rfl) rfl ?_
  show fhW fhYM Γ 7 [(0, .ref 0), (1, .int v1), (2, .int v2), (3, .int v3)] [.int (fhb q1.1)] q1.2
  refine fhW.b_eq hΓ (tgt := 11) (show fhbk _ _ (.ifCond .eq (4)) _ = true by decide +kernel) (fun hc => ?_) (fun hc => ?_)
  · rw [if_neg hc] at h
    refine fhW.blk fhPM fhLL hΓ [(.aload_n 0, 0), (.iconst 0, 0), (.putfield 320, 0), (.aload_n 0, 0), (.iconst 0, 0), (.putfield 350, 0), (.aload_n 0, 0), (.iconst 0, 0), (.putfield 353, 0), (.aload_n 0, 0), (.iconst 0, 0), (.putfield 356, 0), (.aload_n 0, 0), (.iconst 0, 0), (.putfield 359, 0), (.aload_n 0, 0)] (pc' := 37) (lv' := [(0, .ref 0), (1, .int v1), (2, .int v2), (3, .int v3)]) (st' := [.ref 0]) (σ' := (fhI (fhI (fhI (fhI (fhI q1.2 0 48 (0 : Int32)) 0 99 (0 : Int32)) 0 101 (0 : Int32)) 0 102 (0 : Int32)) 0 103 (0 : Int32))) (by decide +kernel) rfl rfl rfl ?_
    obtain ⟨q2, hb2, h⟩ := Option.bind_eq_some_iff.mp h
    refine fhW.callv hΓ mvX12_qTest ml_12_362 (t := 0) (ci := 12) (av := []) (rest := []) (r := none) (σ' := q2) (T_X12_qTest (E := fhEn Γ) (d := fhD Γ - 1) (by omega) (fhI (fhI (fhI (fhI (fhI q1.2 0 48 (0 : Int32)) 0 99 (0 : Int32)) 0 101 (0 : Int32)) 0 102 (0 : Int32)) 0 103 (0 : Int32)) hb2) (by omega) (by decide +kernel) rfl rfl rfl (Nat.le_of_ble_eq_true rfl) rfl ?_
    show fhW fhYM Γ 40 [(0, .ref 0), (1, .int v1), (2, .int v2), (3, .int v3)] [] q2
    refine fhW.blk fhPM fhLL hΓ [(.aload_n 0, 0), (.getfield 262, 0)] (pc' := 44) (lv' := [(0, .ref 0), (1, .int v1), (2, .int v2), (3, .int v3)]) (st' := [.int (q2.1 0 5)]) (σ' := q2) (by decide +kernel) rfl rfl rfl ?_
    refine fhW.z_eq hΓ (tgt := 48) (show fhbk _ _ (.ifCond .eq (4)) _ = true by decide +kernel) (fun hc => ?_) (fun hc => ?_)
    · rw [if_pos hc] at h
      refine fhW.blk fhPM fhLL hΓ [(.iload_n 1, 0), (.iconst 2, 2)] (pc' := 50) (lv' := [(0, .ref 0), (1, .int v1), (2, .int v2), (3, .int v3)]) (st' := [.int (2 : Int32), .int v1]) (σ' := q2) (by decide +kernel) rfl rfl rfl ?_
      refine fhW.i_ne hΓ (tgt := 57) (show fhbk _ _ (.if_icmp .ne (7)) _ = true by decide +kernel) (fun hc => ?_) (fun hc => ?_)
      · simp only [if_neg hc] at h
        refine fhW.blk fhPM fhLL hΓ [(.iconst 4, 4)] (pc' := 58) (lv' := [(0, .ref 0), (1, .int v1), (2, .int v2), (3, .int v3)]) (st' := [.int (4 : Int32)]) (σ' := q2) (by decide +kernel) rfl rfl rfl ?_
        refine fhW.sub (lv' := [(0, .ref 0), (1, .int v1)]) [0, 1] rfl ?_
        exact L_X12_testTold_58 hΓ hd v1 (4 : Int32) q2 _ h hk
      · simp only [if_pos hc] at h
        refine fhW.blk fhPM fhLL hΓ [(.iconst 0, 0)] (pc' := 54) (lv' := [(0, .ref 0), (1, .int v1), (2, .int v2), (3, .int v3)]) (st' := [.int (0 : Int32)]) (σ' := q2) (by decide +kernel) rfl rfl rfl ?_
        refine fhW.goto hΓ (off := 4) (tgt := 58) (by decide +kernel) ?_
        refine fhW.sub (lv' := [(0, .ref 0), (1, .int v1)]) [0, 1] rfl ?_
        exact L_X12_testTold_58 hΓ hd v1 (0 : Int32) q2 _ h hk
    · rw [if_neg hc] at h
      have e9 := Option.some.inj h
      subst e9
      exact fhW.vret hΓ (by decide +kernel) hk
  · rw [if_pos hc] at h
    have e9 := Option.some.inj h
    subst e9
    exact fhW.vret hΓ (by decide +kernel) hk
set_option maxRecDepth 100000 in
theorem T_X12_testTold {E : fhE} {d : Nat} (hd : 9 ≤ d) (v1 : Int32) (v2 : Int32) (v3 : Int32)  (σ : fhM) {o : fhM} (h : f_X12_testTold v1 v2 v3 σ = some o) : fhC fhYM E d miX12_testTold [.ref 0, .int v1, .int v2, .int v3] σ none o := by
  refine fhC.of (y := yX12_testTold) (cc := cX12_testTold) (nL := 6) (ret := none) 12 rfl (by decide +kernel) (Nat.le_of_ble_eq_true rfl) ?_
  intro Γ hΓ hR hD hEn
  subst hD; subst hEn
  exact L_X12_testTold_E hΓ hd v1 v2 v3  σ _ h hR
set_option maxRecDepth 100000 in
set_option maxHeartbeats 4000000 in
theorem L_X12_statementTold_122 {Γ : fhX} (hΓ : fhOk fhYM 12 cX12_statementTold 2 none Γ) (hd : 10 ≤ fhD Γ)   (σ : fhM) (o : fhM) (h : f_X12_statementTold_122 σ = some o) (hk : (fun o => fhRet Γ none o) o) : fhW fhYM Γ 122 [(0, .ref 0)] [] σ := by
  unfold f_X12_statementTold_122 at h
  refine fhW.blk fhPM fhLL hΓ [(.aload_n 0, 0), (.bipush 59, 59)] (pc' := 125) (lv' := [(0, .ref 0)]) (st' := [.int (59 : Int32), .ref 0]) (σ' := σ) (by decide +kernel) rfl rfl rfl ?_
  obtain ⟨q12, hb1, h⟩ := Option.bind_eq_some_iff.mp h
  refine fhW.callv hΓ mvX12_asksSign ml_12_335 (t := 0) (ci := 12) (av := [.int (59 : Int32)]) (rest := []) (r := none) (σ' := q12) (T_X12_asksSign (E := fhEn Γ) (d := fhD Γ - 1) (by omega) (59 : Int32) σ hb1) (by omega) (by decide +kernel) rfl rfl rfl (Nat.le_of_ble_eq_true rfl) rfl ?_
  show fhW fhYM Γ 128 [(0, .ref 0)] [] q12
  refine fhW.blk fhPM fhLL hΓ [(.aload_n 0, 0), (.dup, 0), (.getfield 368, 0), (.iconst 1, 1), (.iadd, 0), (.putfield 368, 0)] (pc' := 138) (lv' := [(0, .ref 0)]) (st' := []) (σ' := (fhI q12 0 46 ((q12.1 0 46) + (1 : Int32)))) (by decide +kernel) rfl rfl rfl ?_
  have e9 := Option.some.inj h
  subst e9
  exact fhW.vret hΓ (by decide +kernel) hk
set_option maxRecDepth 100000 in
set_option maxHeartbeats 4000000 in
theorem L_X12_statementTold_E {Γ : fhX} (hΓ : fhOk fhYM 12 cX12_statementTold 2 none Γ) (hd : 10 ≤ fhD Γ)   (σ : fhM) (o : fhM) (h : f_X12_statementTold σ = some o) (hk : (fun o => fhRet Γ none o) o) : fhW fhYM Γ 0 [(0, .ref 0)] [] σ := by
  unfold f_X12_statementTold at h
  refine fhW.blk fhPM fhLL hΓ [(.aload_n 0, 0), (.getfield 268, 0), (.istore_n 1, 0), (.aload_n 0, 0), (.getfield 368, 0), (.bipush 60, 60)] (pc' := 11) (lv' := [(1, .int (σ.1 0 2)), (0, .ref 0)]) (st' := [.int (60 : Int32), .int (σ.1 0 46)]) (σ' := σ) (by decide +kernel) rfl rfl rfl ?_
  refine fhW.i_ne hΓ (tgt := 21) (show fhbk _ _ (.if_icmp .ne (10)) _ = true by decide +kernel) (fun hc => ?_) (fun hc => ?_)
  · rw [if_neg hc] at h
    refine fhW.blk fhPM fhLL hΓ [(.aload_n 0, 0), (.aload_n 0, 0), (.getfield 24, 0)] (pc' := 26) (lv' := [(1, .int (σ.1 0 2)), (0, .ref 0)]) (st' := [.ref 4, .ref 0]) (σ' := σ) (by decide +kernel) rfl rfl rfl ?_
    obtain ⟨q1, hb2, h⟩ := Option.bind_eq_some_iff.mp h
    refine fhW.callv hΓ mvX12_takes ml_12_289 (t := 0) (ci := 12) (av := [.ref 4]) (rest := []) (r := (some (.int (fhb q1.1)))) (σ' := q1.2) (T_X12_takes (E := fhEn Γ) (d := fhD Γ - 1) (by omega) 4 rfl σ hb2) (by omega) (by decide +kernel) rfl rfl rfl (Nat.le_of_ble_eq_true rfl) rfl ?_
    show fhW fhYM Γ 29 [(1, .int (σ.1 0 2)), (0, .ref 0)] [.int (fhb q1.1)] q1.2
    refine fhW.b_eq hΓ (tgt := 40) (show fhbk _ _ (.ifCond .eq (11)) _ = true by decide +kernel) (fun hc => ?_) (fun hc => ?_)
    · rw [if_neg hc] at h
      refine fhW.blk fhPM fhLL hΓ [(.aload_n 0, 0), (.aload_n 0, 0), (.getfield 30, 0)] (pc' := 45) (lv' := [(1, .int (σ.1 0 2)), (0, .ref 0)]) (st' := [.ref 6, .ref 0]) (σ' := q1.2) (by decide +kernel) rfl rfl rfl ?_
      obtain ⟨q2, hb3, h⟩ := Option.bind_eq_some_iff.mp h
      refine fhW.callv hΓ mvX12_takes ml_12_289 (t := 0) (ci := 12) (av := [.ref 6]) (rest := []) (r := (some (.int (fhb q2.1)))) (σ' := q2.2) (T_X12_takes (E := fhEn Γ) (d := fhD Γ - 1) (by omega) 6 rfl q1.2 hb3) (by omega) (by decide +kernel) rfl rfl rfl (Nat.le_of_ble_eq_true rfl) rfl ?_
      show fhW fhYM Γ 48 [(1, .int (σ.1 0 2)), (0, .ref 0)] [.int (fhb q2.1)] q2.2
      refine fhW.b_eq hΓ (tgt := 58) (show fhbk _ _ (.ifCond .eq (10)) _ = true by decide +kernel) (fun hc => ?_) (fun hc => ?_)
      · rw [if_neg hc] at h
        refine fhW.blk fhPM fhLL hΓ [(.aload_n 0, 0), (.aload_n 0, 0), (.getfield 36, 0)] (pc' := 63) (lv' := [(1, .int (σ.1 0 2)), (0, .ref 0)]) (st' := [.ref 8, .ref 0]) (σ' := q2.2) (by decide +kernel) rfl rfl rfl ?_
        obtain ⟨q3, hb4, h⟩ := Option.bind_eq_some_iff.mp h
        refine fhW.callv hΓ mvX12_takes ml_12_289 (t := 0) (ci := 12) (av := [.ref 8]) (rest := []) (r := (some (.int (fhb q3.1)))) (σ' := q3.2) (T_X12_takes (E := fhEn Γ) (d := fhD Γ - 1) (by omega) 8 rfl q2.2 hb4) (by omega) (by decide +kernel) rfl rfl rfl (Nat.le_of_ble_eq_true rfl) rfl ?_
        show fhW fhYM Γ 66 [(1, .int (σ.1 0 2)), (0, .ref 0)] [.int (fhb q3.1)] q3.2
        refine fhW.b_eq hΓ (tgt := 79) (show fhbk _ _ (.ifCond .eq (13)) _ = true by decide +kernel) (fun hc => ?_) (fun hc => ?_)
        · rw [if_neg hc] at h
          refine fhW.blk fhPM fhLL hΓ [(.aload_n 0, 0), (.aload_n 0, 0), (.getfield 39, 0)] (pc' := 84) (lv' := [(1, .int (σ.1 0 2)), (0, .ref 0)]) (st' := [.ref 9, .ref 0]) (σ' := q3.2) (by decide +kernel) rfl rfl rfl ?_
          obtain ⟨q4, hb5, h⟩ := Option.bind_eq_some_iff.mp h
          refine fhW.callv hΓ mvX12_takes ml_12_289 (t := 0) (ci := 12) (av := [.ref 9]) (rest := []) (r := (some (.int (fhb q4.1)))) (σ' := q4.2) (T_X12_takes (E := fhEn Γ) (d := fhD Γ - 1) (by omega) 9 rfl q3.2 hb5) (by omega) (by decide +kernel) rfl rfl rfl (Nat.le_of_ble_eq_true rfl) rfl ?_
          show fhW fhYM Γ 87 [(1, .int (σ.1 0 2)), (0, .ref 0)] [.int (fhb q4.1)] q4.2
          refine fhW.b_eq hΓ (tgt := 101) (show fhbk _ _ (.ifCond .eq (14)) _ = true by decide +kernel) (fun hc => ?_) (fun hc => ?_)
          · rw [if_neg hc] at h
            refine fhW.blk fhPM fhLL hΓ [(.aload_n 0, 0), (.aload_n 0, 0), (.getfield 42, 0)] (pc' := 106) (lv' := [(1, .int (σ.1 0 2)), (0, .ref 0)]) (st' := [.ref 10, .ref 0]) (σ' := q4.2) (by decide +kernel) rfl rfl rfl ?_
            obtain ⟨q5, hb6, h⟩ := Option.bind_eq_some_iff.mp h
            refine fhW.callv hΓ mvX12_asks ml_12_327 (t := 0) (ci := 12) (av := [.ref 10]) (rest := []) (r := none) (σ' := q5) (T_X12_asks (E := fhEn Γ) (d := fhD Γ - 1) (by omega) 10 rfl q4.2 hb6) (by omega) (by decide +kernel) rfl rfl rfl (Nat.le_of_ble_eq_true rfl) rfl ?_
            show fhW fhYM Γ 109 [(1, .int (σ.1 0 2)), (0, .ref 0)] [] q5
            refine fhW.blk fhPM fhLL hΓ [(.aload_n 0, 0), (.getfield 99, 0), (.iconst 4, 4), (.aload_n 0, 0), (.iconst 0, 0), (.bipush 100, 100)] (pc' := 118) (lv' := [(1, .int (σ.1 0 2)), (0, .ref 0)]) (st' := [.int (100 : Int32), .int (0 : Int32), .ref 0, .int (4 : Int32), .ref 29]) (σ' := q5) (by decide +kernel) rfl rfl rfl ?_
            obtain ⟨q6, hb7, h⟩ := Option.bind_eq_some_iff.mp h
            refine fhW.callv hΓ mvX12_number ml_12_331 (t := 0) (ci := 12) (av := [.int (0 : Int32), .int (100 : Int32)]) (rest := [.int (4 : Int32), .ref 29]) (r := (some (.int q6.1))) (σ' := q6.2) (T_X12_number (E := fhEn Γ) (d := fhD Γ - 1) (by omega) (0 : Int32) (100 : Int32) q5 hb7) (by omega) (by decide +kernel) rfl rfl rfl (Nat.le_of_ble_eq_true rfl) rfl ?_
            show fhW fhYM Γ 121 [(1, .int (σ.1 0 2)), (0, .ref 0)] [.int q6.1, .int (4 : Int32), .ref 29] q6.2
            refine fhW.blk fhPM fhLL hΓ [(.iastore, 0)] (pc' := 122) (lv' := [(1, .int (σ.1 0 2)), (0, .ref 0)]) (st' := []) (σ' := (fhI q6.2 29 4 q6.1)) (by decide +kernel) rfl rfl rfl ?_
            refine fhW.sub (lv' := [(0, .ref 0)]) [1] rfl ?_
            exact L_X12_statementTold_122 hΓ hd (fhI q6.2 29 4 q6.1) _ h hk
          · rw [if_pos hc] at h
            refine fhW.blk fhPM fhLL hΓ [(.aload_n 0, 0), (.iconst 3, 3), (.bipush 8, 8), (.iload_n 1, 0)] (pc' := 95) (lv' := [(1, .int (σ.1 0 2)), (0, .ref 0)]) (st' := [.int (σ.1 0 2), .int (8 : Int32), .int (3 : Int32), .ref 0]) (σ' := q4.2) (by decide +kernel) rfl rfl rfl ?_
            obtain ⟨q7, hb8, h⟩ := Option.bind_eq_some_iff.mp h
            refine fhW.callv hΓ mvX12_testTold ml_12_377 (t := 0) (ci := 12) (av := [.int (3 : Int32), .int (8 : Int32), .int (σ.1 0 2)]) (rest := []) (r := none) (σ' := q7) (T_X12_testTold (E := fhEn Γ) (d := fhD Γ - 1) (by omega) (3 : Int32) (8 : Int32) (σ.1 0 2) q4.2 hb8) (by omega) (by decide +kernel) rfl rfl rfl (Nat.le_of_ble_eq_true rfl) rfl ?_
            show fhW fhYM Γ 98 [(1, .int (σ.1 0 2)), (0, .ref 0)] [] q7
            refine fhW.goto hΓ (off := 24) (tgt := 122) (by decide +kernel) ?_
            refine fhW.sub (lv' := [(0, .ref 0)]) [1] rfl ?_
            exact L_X12_statementTold_122 hΓ hd q7 _ h hk
        · rw [if_pos hc] at h
          refine fhW.blk fhPM fhLL hΓ [(.aload_n 0, 0), (.iconst 2, 2), (.iconst 4, 4), (.iload_n 1, 0)] (pc' := 73) (lv' := [(1, .int (σ.1 0 2)), (0, .ref 0)]) (st' := [.int (σ.1 0 2), .int (4 : Int32), .int (2 : Int32), .ref 0]) (σ' := q3.2) (by decide +kernel) rfl rfl rfl ?_
          obtain ⟨q8, hb9, h⟩ := Option.bind_eq_some_iff.mp h
          refine fhW.callv hΓ mvX12_testTold ml_12_377 (t := 0) (ci := 12) (av := [.int (2 : Int32), .int (4 : Int32), .int (σ.1 0 2)]) (rest := []) (r := none) (σ' := q8) (T_X12_testTold (E := fhEn Γ) (d := fhD Γ - 1) (by omega) (2 : Int32) (4 : Int32) (σ.1 0 2) q3.2 hb9) (by omega) (by decide +kernel) rfl rfl rfl (Nat.le_of_ble_eq_true rfl) rfl ?_
          show fhW fhYM Γ 76 [(1, .int (σ.1 0 2)), (0, .ref 0)] [] q8
          refine fhW.goto hΓ (off := 46) (tgt := 122) (by decide +kernel) ?_
          refine fhW.sub (lv' := [(0, .ref 0)]) [1] rfl ?_
          exact L_X12_statementTold_122 hΓ hd q8 _ h hk
      · rw [if_pos hc] at h
        refine fhW.blk fhPM fhLL hΓ [(.aload_n 0, 0)] (pc' := 52) (lv' := [(1, .int (σ.1 0 2)), (0, .ref 0)]) (st' := [.ref 0]) (σ' := q2.2) (by decide +kernel) rfl rfl rfl ?_
        obtain ⟨q9, hb10, h⟩ := Option.bind_eq_some_iff.mp h
        refine fhW.callv hΓ mvX12_blindTold ml_12_374 (t := 0) (ci := 12) (av := []) (rest := []) (r := none) (σ' := q9) (T_X12_blindTold (E := fhEn Γ) (d := fhD Γ - 1) (by omega) q2.2 hb10) (by omega) (by decide +kernel) rfl rfl rfl (Nat.le_of_ble_eq_true rfl) rfl ?_
        show fhW fhYM Γ 55 [(1, .int (σ.1 0 2)), (0, .ref 0)] [] q9
        refine fhW.goto hΓ (off := 67) (tgt := 122) (by decide +kernel) ?_
        refine fhW.sub (lv' := [(0, .ref 0)]) [1] rfl ?_
        exact L_X12_statementTold_122 hΓ hd q9 _ h hk
    · rw [if_pos hc] at h
      refine fhW.blk fhPM fhLL hΓ [(.aload_n 0, 0), (.iload_n 1, 0)] (pc' := 34) (lv' := [(1, .int (σ.1 0 2)), (0, .ref 0)]) (st' := [.int (σ.1 0 2), .ref 0]) (σ' := q1.2) (by decide +kernel) rfl rfl rfl ?_
      obtain ⟨q10, hb11, h⟩ := Option.bind_eq_some_iff.mp h
      refine fhW.callv hΓ mvX12_guestTold ml_12_371 (t := 0) (ci := 12) (av := [.int (σ.1 0 2)]) (rest := []) (r := none) (σ' := q10) (T_X12_guestTold (E := fhEn Γ) (d := fhD Γ - 1) (by omega) (σ.1 0 2) q1.2 hb11) (by omega) (by decide +kernel) rfl rfl rfl (Nat.le_of_ble_eq_true rfl) rfl ?_
      show fhW fhYM Γ 37 [(1, .int (σ.1 0 2)), (0, .ref 0)] [] q10
      refine fhW.goto hΓ (off := 85) (tgt := 122) (by decide +kernel) ?_
      refine fhW.sub (lv' := [(0, .ref 0)]) [1] rfl ?_
      exact L_X12_statementTold_122 hΓ hd q10 _ h hk
  · rw [if_pos hc] at h
    refine fhW.blk fhPM fhLL hΓ [(.aload_n 0, 0), (.iconst 5, 5), (.iload_n 1, 0)] (pc' := 17) (lv' := [(1, .int (σ.1 0 2)), (0, .ref 0)]) (st' := [.int (σ.1 0 2), .int (5 : Int32), .ref 0]) (σ' := σ) (by decide +kernel) rfl rfl rfl ?_
    refine fhW.callv hΓ mvX12_fail ml_12_292 (t := 0) (ci := 12) (av := [.int (5 : Int32), .int (σ.1 0 2)]) (rest := []) (r := none) (σ' := (f_X12_fail (5 : Int32) (σ.1 0 2) σ)) (T_X12_fail (E := fhEn Γ) (d := fhD Γ - 1) (by omega) (5 : Int32) (σ.1 0 2) σ) (by omega) (by decide +kernel) rfl rfl rfl (Nat.le_of_ble_eq_true rfl) rfl ?_
    show fhW fhYM Γ 20 [(1, .int (σ.1 0 2)), (0, .ref 0)] [] (f_X12_fail (5 : Int32) (σ.1 0 2) σ)
    obtain ⟨q11, e1, h⟩ := fhlet_elim h
    rw [← e1]
    have e9 := Option.some.inj h
    subst e9
    exact fhW.vret hΓ (by decide +kernel) hk
set_option maxRecDepth 100000 in
theorem T_X12_statementTold {E : fhE} {d : Nat} (hd : 10 ≤ d)   (σ : fhM) {o : fhM} (h : f_X12_statementTold σ = some o) : fhC fhYM E d miX12_statementTold [.ref 0] σ none o := by
  refine fhC.of (y := yX12_statementTold) (cc := cX12_statementTold) (nL := 2) (ret := none) 12 rfl (by decide +kernel) (Nat.le_of_ble_eq_true rfl) ?_
  intro Γ hΓ hR hD hEn
  subst hD; subst hEn
  exact L_X12_statementTold_E hΓ hd   σ _ h hR
set_option maxRecDepth 100000 in
set_option maxHeartbeats 4000000 in
theorem L_X12_laysRow_11 {Γ : fhX} (hΓ : fhOk fhYM 12 cX12_laysRow 6 none Γ) (hd : 0 ≤ fhD Γ) (v2 : Int32) (v3 : Int32) (v4 : Int32) (v5 : Int32)  (σ : fhM) (o : (Int32 × Int32 × fhM) ⊕ (fhM)) (h : f_X12_laysRow_11 v2 v3 v4 v5 σ = some o) (hk : (fhK (fun x => fhW fhYM Γ 11 [(0, .ref 0), (2, .int v2), (3, .int v3), (4, .int x.1), (5, .int x.2.1)] [] x.2.2) (fun o => fhRet Γ none o)) o) : fhW fhYM Γ 11 [(0, .ref 0), (2, .int v2), (3, .int v3), (4, .int v4), (5, .int v5)] [] σ := by
  unfold f_X12_laysRow_11 at h
  refine fhW.blk fhPM fhLL hΓ [(.iload 5, 0), (.iload_n 3, 0)] (pc' := 14) (lv' := [(0, .ref 0), (2, .int v2), (3, .int v3), (4, .int v4), (5, .int v5)]) (st' := [.int v3, .int v5]) (σ' := σ) (by decide +kernel) rfl rfl rfl ?_
  refine fhW.i_ge hΓ (tgt := 40) (show fhbk _ _ (.if_icmp .ge (26)) _ = true by decide +kernel) (fun hc => ?_) (fun hc => ?_)
  · rw [if_pos hc] at h
    have e9 := Option.some.inj h
    subst e9
    exact fhW.vret hΓ (by decide +kernel) hk
  · rw [if_neg hc] at h
    obtain ⟨hg1, h⟩ := fhif h
    refine fhW.blk fhPM fhLL hΓ [(.aload_n 0, 0), (.getfield 121, 0), (.iload 5, 0), (.iload 4, 0), (.iload_n 2, 0), (.irem, 0), (.iastore, 0), (.iload 4, 0), (.iload_n 2, 0), (.idiv, 0), (.istore 4, 0), (.iinc 5 1, 1)] (pc' := 37) (lv' := [(5, .int (v5 + (1 : Int32))), (4, .int (v4 / v2)), (0, .ref 0), (2, .int v2), (3, .int v3)]) (st' := []) (σ' := (fhI σ 36 (fhix v5) (fhrem v4 v2))) (by decide +kernel) rfl rfl hg1 ?_
    refine fhW.goto hΓ (off := (-26)) (tgt := 11) (by decide +kernel) ?_
    refine fhW.sub (lv' := [(0, .ref 0), (2, .int v2), (3, .int v3), (4, .int (v4 / v2)), (5, .int (v5 + (1 : Int32)))]) [2, 3, 4, 1, 0] rfl ?_
    have e9 := Option.some.inj h
    subst e9
    exact hk
set_option maxRecDepth 100000 in
set_option maxHeartbeats 4000000 in
theorem L_X12_laysRow_E {Γ : fhX} (hΓ : fhOk fhYM 12 cX12_laysRow 6 none Γ) (hd : 0 ≤ fhD Γ) (v1 : Int32) (v2 : Int32) (v3 : Int32)  (σ : fhM) (o : fhM) (h : f_X12_laysRow v1 v2 v3 σ = some o) (hk : (fun o => fhRet Γ none o) o) : fhW fhYM Γ 0 [(0, .ref 0), (1, .int v1), (2, .int v2), (3, .int v3)] [] σ := by
  unfold f_X12_laysRow at h
  refine fhW.blk fhPM fhLL hΓ [(.iload_n 1, 0), (.istore 4, 0), (.aload_n 0, 0), (.iload_n 3, 0), (.putfield 381, 0), (.iconst 0, 0), (.istore 5, 0)] (pc' := 11) (lv' := [(5, .int (0 : Int32)), (4, .int v1), (0, .ref 0), (1, .int v1), (2, .int v2), (3, .int v3)]) (st' := []) (σ' := (fhI σ 0 50 v3)) (by decide +kernel) rfl rfl rfl ?_
  refine fhW.sub (lv' := [(0, .ref 0), (2, .int v2), (3, .int v3), (4, .int v1), (5, .int (0 : Int32))]) [2, 4, 5, 1, 0] rfl ?_
  exact fhlp_ok (W := (fun x => fhW fhYM Γ 11 [(0, .ref 0), (2, .int v2), (3, .int v3), (4, .int x.1), (5, .int x.2.1)] [] x.2.2)) (B := (fun o => fhRet Γ none o)) (fun x o h hk => L_X12_laysRow_11 hΓ hd v2 v3 x.1 x.2.1 x.2.2 o h hk) (v1, (0 : Int32), (fhI σ 0 50 v3)) _ h hk
set_option maxRecDepth 100000 in
theorem T_X12_laysRow {E : fhE} {d : Nat} (hd : 0 ≤ d) (v1 : Int32) (v2 : Int32) (v3 : Int32)  (σ : fhM) {o : fhM} (h : f_X12_laysRow v1 v2 v3 σ = some o) : fhC fhYM E d miX12_laysRow [.ref 0, .int v1, .int v2, .int v3] σ none o := by
  refine fhC.of (y := yX12_laysRow) (cc := cX12_laysRow) (nL := 6) (ret := none) 12 rfl (by decide +kernel) (Nat.le_of_ble_eq_true rfl) ?_
  intro Γ hΓ hR hD hEn
  subst hD; subst hEn
  exact L_X12_laysRow_E hΓ hd v1 v2 v3  σ _ h hR
set_option maxRecDepth 100000 in
set_option maxHeartbeats 4000000 in
theorem L_X12_rowSum_4 {Γ : fhX} (hΓ : fhOk fhYM 12 cX12_rowSum 3 (some .int) Γ) (hd : 0 ≤ fhD Γ) (v1 : Int32) (v2 : Int32)  (σ : fhM) (o : (Int32 × Int32) ⊕ (Int32)) (h : f_X12_rowSum_4 v1 v2 σ = some o) (hk : (fhK (fun x => fhW fhYM Γ 4 [(0, .ref 0), (1, .int x.1), (2, .int x.2)] [] σ) (fun o => fhRet Γ (some (.int o)) σ)) o) : fhW fhYM Γ 4 [(0, .ref 0), (1, .int v1), (2, .int v2)] [] σ := by
  unfold f_X12_rowSum_4 at h
  refine fhW.blk fhPM fhLL hΓ [(.iload_n 2, 0), (.aload_n 0, 0), (.getfield 381, 0)] (pc' := 9) (lv' := [(0, .ref 0), (1, .int v1), (2, .int v2)]) (st' := [.int (σ.1 0 50), .int v2]) (σ' := σ) (by decide +kernel) rfl rfl rfl ?_
  refine fhW.i_ge hΓ (tgt := 27) (show fhbk _ _ (.if_icmp .ge (18)) _ = true by decide +kernel) (fun hc => ?_) (fun hc => ?_)
  · rw [if_pos hc] at h
    refine fhW.blk fhPM fhLL hΓ [(.iload_n 1, 0)] (pc' := 28) (lv' := [(0, .ref 0), (1, .int v1), (2, .int v2)]) (st' := [.int v1]) (σ' := σ) (by decide +kernel) rfl rfl rfl ?_
    have e9 := Option.some.inj h
    subst e9
    exact fhW.iret hΓ (by decide +kernel) hk
  · rw [if_neg hc] at h
    obtain ⟨hg1, h⟩ := fhif h
    refine fhW.blk fhPM fhLL hΓ [(.iload_n 1, 0), (.aload_n 0, 0), (.getfield 121, 0), (.iload_n 2, 0), (.iaload, 0), (.iadd, 0), (.istore_n 1, 0), (.iinc 2 1, 1)] (pc' := 24) (lv' := [(2, .int (v2 + (1 : Int32))), (1, .int (v1 + (σ.1 36 (fhix v2)))), (0, .ref 0)]) (st' := []) (σ' := σ) (by decide +kernel) rfl rfl hg1 ?_
    refine fhW.goto hΓ (off := (-20)) (tgt := 4) (by decide +kernel) ?_
    refine fhW.sub (lv' := [(0, .ref 0), (1, .int (v1 + (σ.1 36 (fhix v2)))), (2, .int (v2 + (1 : Int32)))]) [2, 1, 0] rfl ?_
    have e9 := Option.some.inj h
    subst e9
    exact hk
set_option maxRecDepth 100000 in
set_option maxHeartbeats 4000000 in
theorem L_X12_rowSum_E {Γ : fhX} (hΓ : fhOk fhYM 12 cX12_rowSum 3 (some .int) Γ) (hd : 0 ≤ fhD Γ)   (σ : fhM) (o : Int32) (h : f_X12_rowSum σ = some o) (hk : (fun o => fhRet Γ (some (.int o)) σ) o) : fhW fhYM Γ 0 [(0, .ref 0)] [] σ := by
  unfold f_X12_rowSum at h
  refine fhW.blk fhPM fhLL hΓ [(.iconst 0, 0), (.istore_n 1, 0), (.iconst 0, 0), (.istore_n 2, 0)] (pc' := 4) (lv' := [(2, .int (0 : Int32)), (1, .int (0 : Int32)), (0, .ref 0)]) (st' := []) (σ' := σ) (by decide +kernel) rfl rfl rfl ?_
  refine fhW.sub (lv' := [(0, .ref 0), (1, .int (0 : Int32)), (2, .int (0 : Int32))]) [2, 1, 0] rfl ?_
  exact fhlp_ok (W := (fun x => fhW fhYM Γ 4 [(0, .ref 0), (1, .int x.1), (2, .int x.2)] [] σ)) (B := (fun o => fhRet Γ (some (.int o)) σ)) (fun x o h hk => L_X12_rowSum_4 hΓ hd x.1 x.2 σ o h hk) ((0 : Int32), (0 : Int32)) _ h hk
set_option maxRecDepth 100000 in
theorem T_X12_rowSum {E : fhE} {d : Nat} (hd : 0 ≤ d)   (σ : fhM) {o : Int32} (h : f_X12_rowSum σ = some o) : fhC fhYM E d miX12_rowSum [.ref 0] σ (some (.int o)) σ := by
  refine fhC.of (y := yX12_rowSum) (cc := cX12_rowSum) (nL := 3) (ret := (some .int)) 12 rfl (by decide +kernel) (Nat.le_of_ble_eq_true rfl) ?_
  intro Γ hΓ hR hD hEn
  subst hD; subst hEn
  exact L_X12_rowSum_E hΓ hd   σ _ h hR
set_option maxRecDepth 100000 in
set_option maxHeartbeats 4000000 in
theorem L_X12_rowTop_29 {Γ : fhX} (hΓ : fhOk fhYM 12 cX12_rowTop 3 (some .int) Γ) (hd : 0 ≤ fhD Γ) (v1 : Int32) (v2 : Int32)  (σ : fhM) (o : (Int32 × Int32) ⊕ (Int32)) (h : f_X12_rowTop_29 v1 v2 σ = some o) (hk : (fhK (fun x => fhW fhYM Γ 4 [(0, .ref 0), (1, .int x.1), (2, .int x.2)] [] σ) (fun o => fhRet Γ (some (.int o)) σ)) o) : fhW fhYM Γ 29 [(0, .ref 0), (1, .int v1), (2, .int v2)] [] σ := by
  unfold f_X12_rowTop_29 at h
  refine fhW.blk fhPM fhLL hΓ [(.iinc 2 1, 1)] (pc' := 32) (lv' := [(2, .int (v2 + (1 : Int32))), (0, .ref 0), (1, .int v1)]) (st' := []) (σ' := σ) (by decide +kernel) rfl rfl rfl ?_
  refine fhW.goto hΓ (off := (-28)) (tgt := 4) (by decide +kernel) ?_
  refine fhW.sub (lv' := [(0, .ref 0), (1, .int v1), (2, .int (v2 + (1 : Int32)))]) [1, 2, 0] rfl ?_
  have e9 := Option.some.inj h
  subst e9
  exact hk
set_option maxRecDepth 100000 in
set_option maxHeartbeats 4000000 in
theorem L_X12_rowTop_4 {Γ : fhX} (hΓ : fhOk fhYM 12 cX12_rowTop 3 (some .int) Γ) (hd : 0 ≤ fhD Γ) (v1 : Int32) (v2 : Int32)  (σ : fhM) (o : (Int32 × Int32) ⊕ (Int32)) (h : f_X12_rowTop_4 v1 v2 σ = some o) (hk : (fhK (fun x => fhW fhYM Γ 4 [(0, .ref 0), (1, .int x.1), (2, .int x.2)] [] σ) (fun o => fhRet Γ (some (.int o)) σ)) o) : fhW fhYM Γ 4 [(0, .ref 0), (1, .int v1), (2, .int v2)] [] σ := by
  unfold f_X12_rowTop_4 at h
  refine fhW.blk fhPM fhLL hΓ [(.iload_n 2, 0), (.aload_n 0, 0), (.getfield 381, 0)] (pc' := 9) (lv' := [(0, .ref 0), (1, .int v1), (2, .int v2)]) (st' := [.int (σ.1 0 50), .int v2]) (σ' := σ) (by decide +kernel) rfl rfl rfl ?_
  refine fhW.i_ge hΓ (tgt := 35) (show fhbk _ _ (.if_icmp .ge (26)) _ = true by decide +kernel) (fun hc => ?_) (fun hc => ?_)
  · rw [if_pos hc] at h
    refine fhW.blk fhPM fhLL hΓ [(.iload_n 1, 0)] (pc' := 36) (lv' := [(0, .ref 0), (1, .int v1), (2, .int v2)]) (st' := [.int v1]) (σ' := σ) (by decide +kernel) rfl rfl rfl ?_
    have e9 := Option.some.inj h
    subst e9
    exact fhW.iret hΓ (by decide +kernel) hk
  · rw [if_neg hc] at h
    obtain ⟨hg1, h⟩ := fhif h
    refine fhW.blk fhPM fhLL hΓ [(.aload_n 0, 0), (.getfield 121, 0), (.iload_n 2, 0), (.iaload, 0), (.iload_n 1, 0)] (pc' := 19) (lv' := [(0, .ref 0), (1, .int v1), (2, .int v2)]) (st' := [.int v1, .int (σ.1 36 (fhix v2))]) (σ' := σ) (by decide +kernel) rfl rfl hg1 ?_
    refine fhW.i_le hΓ (tgt := 29) (show fhbk _ _ (.if_icmp .le (10)) _ = true by decide +kernel) (fun hc => ?_) (fun hc => ?_)
    · rw [if_pos hc] at h
      refine fhW.sub (lv' := [(0, .ref 0), (1, .int v1), (2, .int v2)]) [0, 1, 2] rfl ?_
      exact L_X12_rowTop_29 hΓ hd v1 v2 σ _ h hk
    · rw [if_neg hc] at h
      obtain ⟨hg2, h⟩ := fhif h
      refine fhW.blk fhPM fhLL hΓ [(.aload_n 0, 0), (.getfield 121, 0), (.iload_n 2, 0), (.iaload, 0), (.istore_n 1, 0)] (pc' := 29) (lv' := [(1, .int (σ.1 36 (fhix v2))), (0, .ref 0), (2, .int v2)]) (st' := []) (σ' := σ) (by decide +kernel) rfl rfl hg2 ?_
      refine fhW.sub (lv' := [(0, .ref 0), (1, .int (σ.1 36 (fhix v2))), (2, .int v2)]) [1, 0, 2] rfl ?_
      exact L_X12_rowTop_29 hΓ hd (σ.1 36 (fhix v2)) v2 σ _ h hk
set_option maxRecDepth 100000 in
set_option maxHeartbeats 4000000 in
theorem L_X12_rowTop_E {Γ : fhX} (hΓ : fhOk fhYM 12 cX12_rowTop 3 (some .int) Γ) (hd : 0 ≤ fhD Γ)   (σ : fhM) (o : Int32) (h : f_X12_rowTop σ = some o) (hk : (fun o => fhRet Γ (some (.int o)) σ) o) : fhW fhYM Γ 0 [(0, .ref 0)] [] σ := by
  unfold f_X12_rowTop at h
  refine fhW.blk fhPM fhLL hΓ [(.iconst 0, 0), (.istore_n 1, 0), (.iconst 0, 0), (.istore_n 2, 0)] (pc' := 4) (lv' := [(2, .int (0 : Int32)), (1, .int (0 : Int32)), (0, .ref 0)]) (st' := []) (σ' := σ) (by decide +kernel) rfl rfl rfl ?_
  refine fhW.sub (lv' := [(0, .ref 0), (1, .int (0 : Int32)), (2, .int (0 : Int32))]) [2, 1, 0] rfl ?_
  exact fhlp_ok (W := (fun x => fhW fhYM Γ 4 [(0, .ref 0), (1, .int x.1), (2, .int x.2)] [] σ)) (B := (fun o => fhRet Γ (some (.int o)) σ)) (fun x o h hk => L_X12_rowTop_4 hΓ hd x.1 x.2 σ o h hk) ((0 : Int32), (0 : Int32)) _ h hk
set_option maxRecDepth 100000 in
theorem T_X12_rowTop {E : fhE} {d : Nat} (hd : 0 ≤ d)   (σ : fhM) {o : Int32} (h : f_X12_rowTop σ = some o) : fhC fhYM E d miX12_rowTop [.ref 0] σ (some (.int o)) σ := by
  refine fhC.of (y := yX12_rowTop) (cc := cX12_rowTop) (nL := 3) (ret := (some .int)) 12 rfl (by decide +kernel) (Nat.le_of_ble_eq_true rfl) ?_
  intro Γ hΓ hR hD hEn
  subst hD; subst hEn
  exact L_X12_rowTop_E hΓ hd   σ _ h hR
set_option maxRecDepth 100000 in
set_option maxHeartbeats 4000000 in
theorem L_X12_rowLow_32 {Γ : fhX} (hΓ : fhOk fhYM 12 cX12_rowLow 3 (some .int) Γ) (hd : 1 ≤ fhD Γ) (v1 : Int32) (v2 : Int32)  (σ : fhM) (o : (Int32 × Int32) ⊕ (Int32)) (h : f_X12_rowLow_32 v1 v2 σ = some o) (hk : (fhK (fun x => fhW fhYM Γ 7 [(0, .ref 0), (1, .int x.1), (2, .int x.2)] [] σ) (fun o => fhRet Γ (some (.int o)) σ)) o) : fhW fhYM Γ 32 [(0, .ref 0), (1, .int v1), (2, .int v2)] [] σ := by
  unfold f_X12_rowLow_32 at h
  refine fhW.blk fhPM fhLL hΓ [(.iinc 2 1, 1)] (pc' := 35) (lv' := [(2, .int (v2 + (1 : Int32))), (0, .ref 0), (1, .int v1)]) (st' := []) (σ' := σ) (by decide +kernel) rfl rfl rfl ?_
  refine fhW.goto hΓ (off := (-28)) (tgt := 7) (by decide +kernel) ?_
  refine fhW.sub (lv' := [(0, .ref 0), (1, .int v1), (2, .int (v2 + (1 : Int32)))]) [1, 2, 0] rfl ?_
  have e9 := Option.some.inj h
  subst e9
  exact hk
set_option maxRecDepth 100000 in
set_option maxHeartbeats 4000000 in
theorem L_X12_rowLow_7 {Γ : fhX} (hΓ : fhOk fhYM 12 cX12_rowLow 3 (some .int) Γ) (hd : 1 ≤ fhD Γ) (v1 : Int32) (v2 : Int32)  (σ : fhM) (o : (Int32 × Int32) ⊕ (Int32)) (h : f_X12_rowLow_7 v1 v2 σ = some o) (hk : (fhK (fun x => fhW fhYM Γ 7 [(0, .ref 0), (1, .int x.1), (2, .int x.2)] [] σ) (fun o => fhRet Γ (some (.int o)) σ)) o) : fhW fhYM Γ 7 [(0, .ref 0), (1, .int v1), (2, .int v2)] [] σ := by
  unfold f_X12_rowLow_7 at h
  refine fhW.blk fhPM fhLL hΓ [(.iload_n 2, 0), (.aload_n 0, 0), (.getfield 381, 0)] (pc' := 12) (lv' := [(0, .ref 0), (1, .int v1), (2, .int v2)]) (st' := [.int (σ.1 0 50), .int v2]) (σ' := σ) (by decide +kernel) rfl rfl rfl ?_
  refine fhW.i_ge hΓ (tgt := 38) (show fhbk _ _ (.if_icmp .ge (26)) _ = true by decide +kernel) (fun hc => ?_) (fun hc => ?_)
  · rw [if_pos hc] at h
    refine fhW.blk fhPM fhLL hΓ [(.iload_n 1, 0)] (pc' := 39) (lv' := [(0, .ref 0), (1, .int v1), (2, .int v2)]) (st' := [.int v1]) (σ' := σ) (by decide +kernel) rfl rfl rfl ?_
    have e9 := Option.some.inj h
    subst e9
    exact fhW.iret hΓ (by decide +kernel) hk
  · rw [if_neg hc] at h
    obtain ⟨hg1, h⟩ := fhif h
    refine fhW.blk fhPM fhLL hΓ [(.aload_n 0, 0), (.getfield 121, 0), (.iload_n 2, 0), (.iaload, 0), (.iload_n 1, 0)] (pc' := 22) (lv' := [(0, .ref 0), (1, .int v1), (2, .int v2)]) (st' := [.int v1, .int (σ.1 36 (fhix v2))]) (σ' := σ) (by decide +kernel) rfl rfl hg1 ?_
    refine fhW.i_ge hΓ (tgt := 32) (show fhbk _ _ (.if_icmp .ge (10)) _ = true by decide +kernel) (fun hc => ?_) (fun hc => ?_)
    · rw [if_pos hc] at h
      refine fhW.sub (lv' := [(0, .ref 0), (1, .int v1), (2, .int v2)]) [0, 1, 2] rfl ?_
      exact L_X12_rowLow_32 hΓ hd v1 v2 σ _ h hk
    · rw [if_neg hc] at h
      obtain ⟨hg2, h⟩ := fhif h
      refine fhW.blk fhPM fhLL hΓ [(.aload_n 0, 0), (.getfield 121, 0), (.iload_n 2, 0), (.iaload, 0), (.istore_n 1, 0)] (pc' := 32) (lv' := [(1, .int (σ.1 36 (fhix v2))), (0, .ref 0), (2, .int v2)]) (st' := []) (σ' := σ) (by decide +kernel) rfl rfl hg2 ?_
      refine fhW.sub (lv' := [(0, .ref 0), (1, .int (σ.1 36 (fhix v2))), (2, .int v2)]) [1, 0, 2] rfl ?_
      exact L_X12_rowLow_32 hΓ hd (σ.1 36 (fhix v2)) v2 σ _ h hk
set_option maxRecDepth 100000 in
set_option maxHeartbeats 4000000 in
theorem L_X12_rowLow_E {Γ : fhX} (hΓ : fhOk fhYM 12 cX12_rowLow 3 (some .int) Γ) (hd : 1 ≤ fhD Γ)   (σ : fhM) (o : Int32) (h : f_X12_rowLow σ = some o) (hk : (fun o => fhRet Γ (some (.int o)) σ) o) : fhW fhYM Γ 0 [(0, .ref 0)] [] σ := by
  unfold f_X12_rowLow at h
  refine fhW.blk fhPM fhLL hΓ [(.aload_n 0, 0)] (pc' := 1) (lv' := [(0, .ref 0)]) (st' := [.ref 0]) (σ' := σ) (by decide +kernel) rfl rfl rfl ?_
  obtain ⟨q1, hb1, h⟩ := Option.bind_eq_some_iff.mp h
  refine fhW.callv hΓ mvX12_rowTop ml_12_384 (t := 0) (ci := 12) (av := []) (rest := []) (r := (some (.int q1))) (σ' := σ) (T_X12_rowTop (E := fhEn Γ) (d := fhD Γ - 1) (by omega) σ hb1) (by omega) (by decide +kernel) rfl rfl rfl (Nat.le_of_ble_eq_true rfl) rfl ?_
  show fhW fhYM Γ 4 [(0, .ref 0)] [.int q1] σ
  refine fhW.blk fhPM fhLL hΓ [(.istore_n 1, 0), (.iconst 0, 0), (.istore_n 2, 0)] (pc' := 7) (lv' := [(2, .int (0 : Int32)), (1, .int q1), (0, .ref 0)]) (st' := []) (σ' := σ) (by decide +kernel) rfl rfl rfl ?_
  refine fhW.sub (lv' := [(0, .ref 0), (1, .int q1), (2, .int (0 : Int32))]) [2, 1, 0] rfl ?_
  exact fhlp_ok (W := (fun x => fhW fhYM Γ 7 [(0, .ref 0), (1, .int x.1), (2, .int x.2)] [] σ)) (B := (fun o => fhRet Γ (some (.int o)) σ)) (fun x o h hk => L_X12_rowLow_7 hΓ hd x.1 x.2 σ o h hk) (q1, (0 : Int32)) _ h hk
set_option maxRecDepth 100000 in
theorem T_X12_rowLow {E : fhE} {d : Nat} (hd : 1 ≤ d)   (σ : fhM) {o : Int32} (h : f_X12_rowLow σ = some o) : fhC fhYM E d miX12_rowLow [.ref 0] σ (some (.int o)) σ := by
  refine fhC.of (y := yX12_rowLow) (cc := cX12_rowLow) (nL := 3) (ret := (some .int)) 12 rfl (by decide +kernel) (Nat.le_of_ble_eq_true rfl) ?_
  intro Γ hΓ hR hD hEn
  subst hD; subst hEn
  exact L_X12_rowLow_E hΓ hd   σ _ h hR
set_option maxRecDepth 100000 in
set_option maxHeartbeats 4000000 in
theorem L_X12_countOf_30 {Γ : fhX} (hΓ : fhOk fhYM 12 cX12_countOf 5 (some .int) Γ) (hd : 0 ≤ fhD Γ) (v1 : Int64) (v3 : Int32) (v4 : Int32)  (σ : fhM) (o : (Int32 × Int32) ⊕ (Int32)) (h : f_X12_countOf_30 v1 v3 v4 σ = some o) (hk : (fhK (fun x => fhW fhYM Γ 5 [(0, .ref 0), (1, .long v1), (3, .int x.1), (4, .int x.2)] [] σ) (fun o => fhRet Γ (some (.int o)) σ)) o) : fhW fhYM Γ 30 [(0, .ref 0), (1, .long v1), (3, .int v3), (4, .int v4)] [] σ := by
  unfold f_X12_countOf_30 at h
  refine fhW.blk fhPM fhLL hΓ [(.iinc 4 1, 1)] (pc' := 33) (lv' := [(4, .int (v4 + (1 : Int32))), (0, .ref 0), (1, .long v1), (3, .int v3)]) (st' := []) (σ' := σ) (by decide +kernel) rfl rfl rfl ?_
  refine fhW.goto hΓ (off := (-28)) (tgt := 5) (by decide +kernel) ?_
  refine fhW.sub (lv' := [(0, .ref 0), (1, .long v1), (3, .int v3), (4, .int (v4 + (1 : Int32)))]) [1, 2, 3, 0] rfl ?_
  have e9 := Option.some.inj h
  subst e9
  exact hk
set_option maxRecDepth 100000 in
set_option maxHeartbeats 4000000 in
theorem L_X12_countOf_5 {Γ : fhX} (hΓ : fhOk fhYM 12 cX12_countOf 5 (some .int) Γ) (hd : 0 ≤ fhD Γ) (v1 : Int64) (v3 : Int32) (v4 : Int32)  (σ : fhM) (o : (Int32 × Int32) ⊕ (Int32)) (h : f_X12_countOf_5 v1 v3 v4 σ = some o) (hk : (fhK (fun x => fhW fhYM Γ 5 [(0, .ref 0), (1, .long v1), (3, .int x.1), (4, .int x.2)] [] σ) (fun o => fhRet Γ (some (.int o)) σ)) o) : fhW fhYM Γ 5 [(0, .ref 0), (1, .long v1), (3, .int v3), (4, .int v4)] [] σ := by
  unfold f_X12_countOf_5 at h
  refine fhW.blk fhPM fhLL hΓ [(.iload 4, 0), (.aload_n 0, 0), (.getfield 381, 0)] (pc' := 11) (lv' := [(0, .ref 0), (1, .long v1), (3, .int v3), (4, .int v4)]) (st' := [.int (σ.1 0 50), .int v4]) (σ' := σ) (by decide +kernel) rfl rfl rfl ?_
  refine fhW.i_ge hΓ (tgt := 36) (show fhbk _ _ (.if_icmp .ge (25)) _ = true by decide +kernel) (fun hc => ?_) (fun hc => ?_)
  · rw [if_pos hc] at h
    refine fhW.blk fhPM fhLL hΓ [(.iload_n 3, 0)] (pc' := 37) (lv' := [(0, .ref 0), (1, .long v1), (3, .int v3), (4, .int v4)]) (st' := [.int v3]) (σ' := σ) (by decide +kernel) rfl rfl rfl ?_
    have e9 := Option.some.inj h
    subst e9
    exact fhW.iret hΓ (by decide +kernel) hk
  · rw [if_neg hc] at h
    obtain ⟨hg1, h⟩ := fhif h
    refine fhW.blk fhPM fhLL hΓ [(.aload_n 0, 0), (.getfield 121, 0), (.iload 4, 0), (.iaload, 0), (.i2l, 0), (.lload_n 1, 0), (.lcmp, 0)] (pc' := 24) (lv' := [(0, .ref 0), (1, .long v1), (3, .int v3), (4, .int v4)]) (st' := [.int (lg_cmp (Int32.toInt64 (σ.1 36 (fhix v4))) v1)]) (σ' := σ) (by decide +kernel) rfl rfl hg1 ?_
    refine fhW.z_ne hΓ (tgt := 30) (show fhbk _ _ (.ifCond .ne (6)) _ = true by decide +kernel) (fun hc => ?_) (fun hc => ?_)
    · simp only [if_neg hc] at h
      refine fhW.sub (lv' := [(0, .ref 0), (1, .long v1), (3, .int v3), (4, .int v4)]) [0, 1, 2, 3] rfl ?_
      exact L_X12_countOf_30 hΓ hd v1 v3 v4 σ _ h hk
    · simp only [if_pos hc] at h
      refine fhW.blk fhPM fhLL hΓ [(.iinc 3 1, 1)] (pc' := 30) (lv' := [(3, .int (v3 + (1 : Int32))), (0, .ref 0), (1, .long v1), (4, .int v4)]) (st' := []) (σ' := σ) (by decide +kernel) rfl rfl rfl ?_
      refine fhW.sub (lv' := [(0, .ref 0), (1, .long v1), (3, .int (v3 + (1 : Int32))), (4, .int v4)]) [1, 2, 0, 3] rfl ?_
      exact L_X12_countOf_30 hΓ hd v1 (v3 + (1 : Int32)) v4 σ _ h hk
set_option maxRecDepth 100000 in
set_option maxHeartbeats 4000000 in
theorem L_X12_countOf_E {Γ : fhX} (hΓ : fhOk fhYM 12 cX12_countOf 5 (some .int) Γ) (hd : 0 ≤ fhD Γ) (v1 : Int64)  (σ : fhM) (o : Int32) (h : f_X12_countOf v1 σ = some o) (hk : (fun o => fhRet Γ (some (.int o)) σ) o) : fhW fhYM Γ 0 [(0, .ref 0), (1, .long v1)] [] σ := by
  unfold f_X12_countOf at h
  refine fhW.blk fhPM fhLL hΓ [(.iconst 0, 0), (.istore_n 3, 0), (.iconst 0, 0), (.istore 4, 0)] (pc' := 5) (lv' := [(4, .int (0 : Int32)), (3, .int (0 : Int32)), (0, .ref 0), (1, .long v1)]) (st' := []) (σ' := σ) (by decide +kernel) rfl rfl rfl ?_
  refine fhW.sub (lv' := [(0, .ref 0), (1, .long v1), (3, .int (0 : Int32)), (4, .int (0 : Int32))]) [2, 3, 1, 0] rfl ?_
  exact fhlp_ok (W := (fun x => fhW fhYM Γ 5 [(0, .ref 0), (1, .long v1), (3, .int x.1), (4, .int x.2)] [] σ)) (B := (fun o => fhRet Γ (some (.int o)) σ)) (fun x o h hk => L_X12_countOf_5 hΓ hd v1 x.1 x.2 σ o h hk) ((0 : Int32), (0 : Int32)) _ h hk
set_option maxRecDepth 100000 in
theorem T_X12_countOf {E : fhE} {d : Nat} (hd : 0 ≤ d) (v1 : Int64)  (σ : fhM) {o : Int32} (h : f_X12_countOf v1 σ = some o) : fhC fhYM E d miX12_countOf [.ref 0, .long v1] σ (some (.int o)) σ := by
  refine fhC.of (y := yX12_countOf) (cc := cX12_countOf) (nL := 5) (ret := (some .int)) 12 rfl (by decide +kernel) (Nat.le_of_ble_eq_true rfl) ?_
  intro Γ hΓ hR hD hEn
  subst hD; subst hEn
  exact L_X12_countOf_E hΓ hd v1  σ _ h hR
set_option maxRecDepth 100000 in
set_option maxHeartbeats 4000000 in
theorem L_X12_rowKinds_21 {Γ : fhX} (hΓ : fhOk fhYM 12 cX12_rowKinds 3 (some .int) Γ) (hd : 1 ≤ fhD Γ) (v1 : Int32) (v2 : Int32)  (σ : fhM) (o : (Int32 × Int32) ⊕ (Int32)) (h : f_X12_rowKinds_21 v1 v2 σ = some o) (hk : (fhK (fun x => fhW fhYM Γ 4 [(0, .ref 0), (1, .int x.1), (2, .int x.2)] [] σ) (fun o => fhRet Γ (some (.int o)) σ)) o) : fhW fhYM Γ 21 [(0, .ref 0), (1, .int v1), (2, .int v2)] [] σ := by
  unfold f_X12_rowKinds_21 at h
  refine fhW.blk fhPM fhLL hΓ [(.iinc 2 1, 1)] (pc' := 24) (lv' := [(2, .int (v2 + (1 : Int32))), (0, .ref 0), (1, .int v1)]) (st' := []) (σ' := σ) (by decide +kernel) rfl rfl rfl ?_
  refine fhW.goto hΓ (off := (-20)) (tgt := 4) (by decide +kernel) ?_
  refine fhW.sub (lv' := [(0, .ref 0), (1, .int v1), (2, .int (v2 + (1 : Int32)))]) [1, 2, 0] rfl ?_
  have e9 := Option.some.inj h
  subst e9
  exact hk
set_option maxRecDepth 100000 in
set_option maxHeartbeats 4000000 in
theorem L_X12_rowKinds_4 {Γ : fhX} (hΓ : fhOk fhYM 12 cX12_rowKinds 3 (some .int) Γ) (hd : 1 ≤ fhD Γ) (v1 : Int32) (v2 : Int32)  (σ : fhM) (o : (Int32 × Int32) ⊕ (Int32)) (h : f_X12_rowKinds_4 v1 v2 σ = some o) (hk : (fhK (fun x => fhW fhYM Γ 4 [(0, .ref 0), (1, .int x.1), (2, .int x.2)] [] σ) (fun o => fhRet Γ (some (.int o)) σ)) o) : fhW fhYM Γ 4 [(0, .ref 0), (1, .int v1), (2, .int v2)] [] σ := by
  unfold f_X12_rowKinds_4 at h
  refine fhW.blk fhPM fhLL hΓ [(.iload_n 2, 0), (.iconst 4, 4)] (pc' := 6) (lv' := [(0, .ref 0), (1, .int v1), (2, .int v2)]) (st' := [.int (4 : Int32), .int v2]) (σ' := σ) (by decide +kernel) rfl rfl rfl ?_
  refine fhW.i_ge hΓ (tgt := 27) (show fhbk _ _ (.if_icmp .ge (21)) _ = true by decide +kernel) (fun hc => ?_) (fun hc => ?_)
  · rw [if_pos hc] at h
    refine fhW.blk fhPM fhLL hΓ [(.iload_n 1, 0)] (pc' := 28) (lv' := [(0, .ref 0), (1, .int v1), (2, .int v2)]) (st' := [.int v1]) (σ' := σ) (by decide +kernel) rfl rfl rfl ?_
    have e9 := Option.some.inj h
    subst e9
    exact fhW.iret hΓ (by decide +kernel) hk
  · rw [if_neg hc] at h
    refine fhW.blk fhPM fhLL hΓ [(.aload_n 0, 0), (.iload_n 2, 0), (.i2l, 0)] (pc' := 12) (lv' := [(0, .ref 0), (1, .int v1), (2, .int v2)]) (st' := [.long (Int32.toInt64 v2), .ref 0]) (σ' := σ) (by decide +kernel) rfl rfl rfl ?_
    obtain ⟨q1, hb1, h⟩ := Option.bind_eq_some_iff.mp h
    refine fhW.callv hΓ mvX12_countOf ml_12_387 (t := 0) (ci := 12) (av := [.long (Int32.toInt64 v2)]) (rest := []) (r := (some (.int q1))) (σ' := σ) (T_X12_countOf (E := fhEn Γ) (d := fhD Γ - 1) (by omega) (Int32.toInt64 v2) σ hb1) (by omega) (by decide +kernel) rfl rfl rfl (Nat.le_of_ble_eq_true rfl) rfl ?_
    show fhW fhYM Γ 15 [(0, .ref 0), (1, .int v1), (2, .int v2)] [.int q1] σ
    refine fhW.z_le hΓ (tgt := 21) (show fhbk _ _ (.ifCond .le (6)) _ = true by decide +kernel) (fun hc => ?_) (fun hc => ?_)
    · simp only [if_pos hc] at h
      refine fhW.sub (lv' := [(0, .ref 0), (1, .int v1), (2, .int v2)]) [0, 1, 2] rfl ?_
      exact L_X12_rowKinds_21 hΓ hd v1 v2 σ _ h hk
    · simp only [if_neg hc] at h
      refine fhW.blk fhPM fhLL hΓ [(.iinc 1 1, 1)] (pc' := 21) (lv' := [(1, .int (v1 + (1 : Int32))), (0, .ref 0), (2, .int v2)]) (st' := []) (σ' := σ) (by decide +kernel) rfl rfl rfl ?_
      refine fhW.sub (lv' := [(0, .ref 0), (1, .int (v1 + (1 : Int32))), (2, .int v2)]) [1, 0, 2] rfl ?_
      exact L_X12_rowKinds_21 hΓ hd (v1 + (1 : Int32)) v2 σ _ h hk
set_option maxRecDepth 100000 in
set_option maxHeartbeats 4000000 in
theorem L_X12_rowKinds_E {Γ : fhX} (hΓ : fhOk fhYM 12 cX12_rowKinds 3 (some .int) Γ) (hd : 1 ≤ fhD Γ)   (σ : fhM) (o : Int32) (h : f_X12_rowKinds σ = some o) (hk : (fun o => fhRet Γ (some (.int o)) σ) o) : fhW fhYM Γ 0 [(0, .ref 0)] [] σ := by
  unfold f_X12_rowKinds at h
  refine fhW.blk fhPM fhLL hΓ [(.iconst 0, 0), (.istore_n 1, 0), (.iconst 0, 0), (.istore_n 2, 0)] (pc' := 4) (lv' := [(2, .int (0 : Int32)), (1, .int (0 : Int32)), (0, .ref 0)]) (st' := []) (σ' := σ) (by decide +kernel) rfl rfl rfl ?_
  refine fhW.sub (lv' := [(0, .ref 0), (1, .int (0 : Int32)), (2, .int (0 : Int32))]) [2, 1, 0] rfl ?_
  exact fhlp_ok (W := (fun x => fhW fhYM Γ 4 [(0, .ref 0), (1, .int x.1), (2, .int x.2)] [] σ)) (B := (fun o => fhRet Γ (some (.int o)) σ)) (fun x o h hk => L_X12_rowKinds_4 hΓ hd x.1 x.2 σ o h hk) ((0 : Int32), (0 : Int32)) _ h hk
set_option maxRecDepth 100000 in
theorem T_X12_rowKinds {E : fhE} {d : Nat} (hd : 1 ≤ d)   (σ : fhM) {o : Int32} (h : f_X12_rowKinds σ = some o) : fhC fhYM E d miX12_rowKinds [.ref 0] σ (some (.int o)) σ := by
  refine fhC.of (y := yX12_rowKinds) (cc := cX12_rowKinds) (nL := 3) (ret := (some .int)) 12 rfl (by decide +kernel) (Nat.le_of_ble_eq_true rfl) ?_
  intro Γ hΓ hR hD hEn
  subst hD; subst hEn
  exact L_X12_rowKinds_E hΓ hd   σ _ h hR
set_option maxRecDepth 100000 in
set_option maxHeartbeats 4000000 in
theorem L_X12_loadsTest_12 {Γ : fhX} (hΓ : fhOk fhYM 12 cX12_loadsTest 3 none Γ) (hd : 0 ≤ fhD Γ) (v1 : Int32) (v2 : Int32)  (σ : fhM) (o : (Int32 × fhM) ⊕ (fhM)) (h : f_X12_loadsTest_12 v1 v2 σ = some o) (hk : (fhK (fun x => fhW fhYM Γ 12 [(0, .ref 0), (1, .int v1), (2, .int x.1)] [] x.2) (fun o => fhRet Γ none o)) o) : fhW fhYM Γ 12 [(0, .ref 0), (1, .int v1), (2, .int v2)] [] σ := by
  unfold f_X12_loadsTest_12 at h
  obtain ⟨hg1, h⟩ := fhif h
  refine fhW.blk fhPM fhLL hΓ [(.iload_n 2, 0), (.aload_n 0, 0), (.getfield 115, 0), (.iload_n 1, 0), (.iaload, 0)] (pc' := 19) (lv' := [(0, .ref 0), (1, .int v1), (2, .int v2)]) (st' := [.int (σ.1 34 (fhix v1)), .int v2]) (σ' := σ) (by decide +kernel) rfl rfl hg1 ?_
  refine fhW.i_ge hΓ (tgt := 53) (show fhbk _ _ (.if_icmp .ge (34)) _ = true by decide +kernel) (fun hc => ?_) (fun hc => ?_)
  · rw [if_pos hc] at h
    have e9 := Option.some.inj h
    subst e9
    exact fhW.vret hΓ (by decide +kernel) hk
  · rw [if_neg hc] at h
    obtain ⟨hg2, h⟩ := fhif h
    refine fhW.blk fhPM fhLL hΓ [(.aload_n 0, 0), (.getfield 247, 0), (.aload_n 0, 0), (.getfield 350, 0), (.aload_n 0, 0), (.getfield 118, 0), (.iload_n 2, 0), (.iaload, 0), (.iastore, 0), (.aload_n 0, 0), (.dup, 0), (.getfield 350, 0), (.iconst 1, 1), (.iadd, 0), (.putfield 350, 0), (.iinc 2 1, 1)] (pc' := 50) (lv' := [(2, .int (v2 + (1 : Int32))), (0, .ref 0), (1, .int v1)]) (st' := []) (σ' := (fhI (fhI σ 76 (fhix (σ.1 0 99)) (σ.1 35 (fhix v2))) 0 99 ((σ.1 0 99) + (1 : Int32)))) (by decide +kernel) rfl rfl hg2 ?_
    refine fhW.goto hΓ (off := (-38)) (tgt := 12) (by decide +kernel) ?_
    refine fhW.sub (lv' := [(0, .ref 0), (1, .int v1), (2, .int (v2 + (1 : Int32)))]) [1, 2, 0] rfl ?_
    have e9 := Option.some.inj h
    subst e9
    exact hk
set_option maxRecDepth 100000 in
set_option maxHeartbeats 4000000 in
theorem L_X12_loadsTest_E {Γ : fhX} (hΓ : fhOk fhYM 12 cX12_loadsTest 3 none Γ) (hd : 0 ≤ fhD Γ) (v1 : Int32)  (σ : fhM) (o : fhM) (h : f_X12_loadsTest v1 σ = some o) (hk : (fun o => fhRet Γ none o) o) : fhW fhYM Γ 0 [(0, .ref 0), (1, .int v1)] [] σ := by
  unfold f_X12_loadsTest at h
  obtain ⟨hg3, h⟩ := fhif h
  refine fhW.blk fhPM fhLL hΓ [(.aload_n 0, 0), (.iconst 0, 0), (.putfield 350, 0), (.aload_n 0, 0), (.getfield 112, 0), (.iload_n 1, 0), (.iaload, 0), (.istore_n 2, 0)] (pc' := 12) (lv' := [(2, .int (σ.1 33 (fhix v1))), (0, .ref 0), (1, .int v1)]) (st' := []) (σ' := (fhI σ 0 99 (0 : Int32))) (by decide +kernel) rfl rfl hg3 ?_
  refine fhW.sub (lv' := [(0, .ref 0), (1, .int v1), (2, .int (σ.1 33 (fhix v1)))]) [1, 2, 0] rfl ?_
  exact fhlp_ok (W := (fun x => fhW fhYM Γ 12 [(0, .ref 0), (1, .int v1), (2, .int x.1)] [] x.2)) (B := (fun o => fhRet Γ none o)) (fun x o h hk => L_X12_loadsTest_12 hΓ hd v1 x.1 x.2 o h hk) ((σ.1 33 (fhix v1)), (fhI σ 0 99 (0 : Int32))) _ h hk
set_option maxRecDepth 100000 in
theorem T_X12_loadsTest {E : fhE} {d : Nat} (hd : 0 ≤ d) (v1 : Int32)  (σ : fhM) {o : fhM} (h : f_X12_loadsTest v1 σ = some o) : fhC fhYM E d miX12_loadsTest [.ref 0, .int v1] σ none o := by
  refine fhC.of (y := yX12_loadsTest) (cc := cX12_loadsTest) (nL := 3) (ret := none) 12 rfl (by decide +kernel) (Nat.le_of_ble_eq_true rfl) ?_
  intro Γ hΓ hR hD hEn
  subst hD; subst hEn
  exact L_X12_loadsTest_E hΓ hd v1  σ _ h hR
set_option maxRecDepth 100000 in
set_option maxHeartbeats 4000000 in
theorem L_X12_wornRow_11 {Γ : fhX} (hΓ : fhOk fhYM 12 cX12_wornRow 3 (some .int) Γ) (hd : 0 ≤ fhD Γ) (v1 : Int32) (v2 : Int32)  (σ : fhM) (o : (Int32 × Int32) ⊕ (Int32)) (h : f_X12_wornRow_11 v1 v2 σ = some o) (hk : (fhK (fun x => fhW fhYM Γ 11 [(0, .ref 0), (1, .int x.1), (2, .int x.2)] [] σ) (fun o => fhRet Γ (some (.int o)) σ)) o) : fhW fhYM Γ 11 [(0, .ref 0), (1, .int v1), (2, .int v2)] [] σ := by
  unfold f_X12_wornRow_11 at h
  refine fhW.blk fhPM fhLL hΓ [(.iload_n 2, 0)] (pc' := 12) (lv' := [(0, .ref 0), (1, .int v1), (2, .int v2)]) (st' := [.int v2]) (σ' := σ) (by decide +kernel) rfl rfl rfl ?_
  refine fhW.z_lt hΓ (tgt := 37) (show fhbk _ _ (.ifCond .lt (25)) _ = true by decide +kernel) (fun hc => ?_) (fun hc => ?_)
  · rw [if_pos hc] at h
    refine fhW.blk fhPM fhLL hΓ [(.iload_n 1, 0)] (pc' := 38) (lv' := [(0, .ref 0), (1, .int v1), (2, .int v2)]) (st' := [.int v1]) (σ' := σ) (by decide +kernel) rfl rfl rfl ?_
    have e9 := Option.some.inj h
    subst e9
    exact fhW.iret hΓ (by decide +kernel) hk
  · rw [if_neg hc] at h
    obtain ⟨hg1, h⟩ := fhif h
    refine fhW.blk fhPM fhLL hΓ [(.aload_n 0, 0), (.getfield 99, 0), (.iconst 0, 0), (.iaload, 0), (.iload_n 1, 0), (.imul, 0), (.aload_n 0, 0), (.getfield 106, 0), (.iload_n 2, 0), (.iaload, 0), (.iadd, 0), (.istore_n 1, 0), (.iinc 2 (-1), -1)] (pc' := 34) (lv' := [(2, .int (v2 + (-1 : Int32))), (1, .int (((σ.1 29 0) * v1) + (σ.1 31 (fhix v2)))), (0, .ref 0)]) (st' := []) (σ' := σ) (by decide +kernel) rfl rfl hg1 ?_
    refine fhW.goto hΓ (off := (-23)) (tgt := 11) (by decide +kernel) ?_
    refine fhW.sub (lv' := [(0, .ref 0), (1, .int (((σ.1 29 0) * v1) + (σ.1 31 (fhix v2)))), (2, .int (v2 + (-1 : Int32)))]) [2, 1, 0] rfl ?_
    have e9 := Option.some.inj h
    subst e9
    exact hk
set_option maxRecDepth 100000 in
set_option maxHeartbeats 4000000 in
theorem L_X12_wornRow_E {Γ : fhX} (hΓ : fhOk fhYM 12 cX12_wornRow 3 (some .int) Γ) (hd : 0 ≤ fhD Γ)   (σ : fhM) (o : Int32) (h : f_X12_wornRow σ = some o) (hk : (fun o => fhRet Γ (some (.int o)) σ) o) : fhW fhYM Γ 0 [(0, .ref 0)] [] σ := by
  unfold f_X12_wornRow at h
  refine fhW.blk fhPM fhLL hΓ [(.iconst 0, 0), (.istore_n 1, 0), (.aload_n 0, 0), (.getfield 99, 0), (.iconst 1, 1), (.iaload, 0), (.iconst 1, 1), (.isub, 0), (.istore_n 2, 0)] (pc' := 11) (lv' := [(2, .int ((σ.1 29 1) - (1 : Int32))), (1, .int (0 : Int32)), (0, .ref 0)]) (st' := []) (σ' := σ) (by decide +kernel) rfl rfl rfl ?_
  refine fhW.sub (lv' := [(0, .ref 0), (1, .int (0 : Int32)), (2, .int ((σ.1 29 1) - (1 : Int32)))]) [2, 1, 0] rfl ?_
  exact fhlp_ok (W := (fun x => fhW fhYM Γ 11 [(0, .ref 0), (1, .int x.1), (2, .int x.2)] [] σ)) (B := (fun o => fhRet Γ (some (.int o)) σ)) (fun x o h hk => L_X12_wornRow_11 hΓ hd x.1 x.2 σ o h hk) ((0 : Int32), ((σ.1 29 1) - (1 : Int32))) _ h hk
set_option maxRecDepth 100000 in
theorem T_X12_wornRow {E : fhE} {d : Nat} (hd : 0 ≤ d)   (σ : fhM) {o : Int32} (h : f_X12_wornRow σ = some o) : fhC fhYM E d miX12_wornRow [.ref 0] σ (some (.int o)) σ := by
  refine fhC.of (y := yX12_wornRow) (cc := cX12_wornRow) (nL := 3) (ret := (some .int)) 12 rfl (by decide +kernel) (Nat.le_of_ble_eq_true rfl) ?_
  intro Γ hΓ hR hD hEn
  subst hD; subst hEn
  exact L_X12_wornRow_E hΓ hd   σ _ h hR
set_option maxRecDepth 100000 in
set_option maxHeartbeats 4000000 in
theorem L_X12_qPuts_E {Γ : fhX} (hΓ : fhOk fhYM 12 cX12_qPuts 3 none Γ) (hd : 0 ≤ fhD Γ) (v1 : Int64)  (σ : fhM) (o : fhM) (h : f_X12_qPuts v1 σ = some o) (hk : (fun o => fhRet Γ none o) o) : fhW fhYM Γ 0 [(0, .ref 0), (1, .long v1)] [] σ := by
  unfold f_X12_qPuts at h
  obtain ⟨hg1, h⟩ := fhif h
  refine fhW.blk fhPM fhLL hΓ [(.aload_n 0, 0), (.getfield 253, 0), (.aload_n 0, 0), (.getfield 651, 0), (.lload_n 1, 0), (.lastore, 0), (.aload_n 0, 0), (.dup, 0), (.getfield 651, 0), (.iconst 1, 1), (.iadd, 0), (.putfield 651, 0)] (pc' := 20) (lv' := [(0, .ref 0), (1, .long v1)]) (st' := []) (σ' := (fhI (fhJ σ 78 (fhix (σ.1 0 105)) v1) 0 105 ((σ.1 0 105) + (1 : Int32)))) (by decide +kernel) rfl rfl hg1 ?_
  have e9 := Option.some.inj h
  subst e9
  exact fhW.vret hΓ (by decide +kernel) hk
set_option maxRecDepth 100000 in
theorem T_X12_qPuts {E : fhE} {d : Nat} (hd : 0 ≤ d) (v1 : Int64)  (σ : fhM) {o : fhM} (h : f_X12_qPuts v1 σ = some o) : fhC fhYM E d miX12_qPuts [.ref 0, .long v1] σ none o := by
  refine fhC.of (y := yX12_qPuts) (cc := cX12_qPuts) (nL := 3) (ret := none) 12 rfl (by decide +kernel) (Nat.le_of_ble_eq_true rfl) ?_
  intro Γ hΓ hR hD hEn
  subst hD; subst hEn
  exact L_X12_qPuts_E hΓ hd v1  σ _ h hR
set_option maxRecDepth 100000 in
set_option maxHeartbeats 4000000 in
theorem L_X12_guestMany_E {Γ : fhX} (hΓ : fhOk fhYM 12 cX12_guestMany 1 (some .int) Γ) (hd : 0 ≤ fhD Γ)   (σ : fhM) (o : Int32) (h : f_X12_guestMany σ = o) (hk : (fun o => fhRet Γ (some (.int o)) σ) o) : fhW fhYM Γ 0 [(0, .ref 0)] [] σ := by
  unfold f_X12_guestMany at h
  refine fhW.blk fhPM fhLL hΓ [(.aload_n 0, 0), (.getfield 99, 0), (.bipush 6, 6), (.iaload, 0)] (pc' := 7) (lv' := [(0, .ref 0)]) (st' := [.int (σ.1 29 6)]) (σ' := σ) (by decide +kernel) rfl rfl rfl ?_
  subst h
  exact fhW.iret hΓ (by decide +kernel) hk
set_option maxRecDepth 100000 in
theorem T_X12_guestMany {E : fhE} {d : Nat} (hd : 0 ≤ d)   (σ : fhM) : fhC fhYM E d miX12_guestMany [.ref 0] σ (some (.int (f_X12_guestMany σ))) σ := by
  refine fhC.of (y := yX12_guestMany) (cc := cX12_guestMany) (nL := 1) (ret := (some .int)) 12 rfl (by decide +kernel) (Nat.le_of_ble_eq_true rfl) ?_
  intro Γ hΓ hR hD hEn
  subst hD; subst hEn
  exact L_X12_guestMany_E hΓ hd   σ _ rfl hR
set_option maxRecDepth 100000 in
set_option maxHeartbeats 4000000 in
theorem L_X12_isGuest_E {Γ : fhX} (hΓ : fhOk fhYM 12 cX12_isGuest 3 (some .boolean) Γ) (hd : 1 ≤ fhD Γ) (v1 : Int64)  (σ : fhM) (o : Bool) (h : f_X12_isGuest v1 σ = o) (hk : (fun o => fhRet Γ (some (.int (fhb o))) σ) o) : fhW fhYM Γ 0 [(0, .ref 0), (1, .long v1)] [] σ := by
  unfold f_X12_isGuest at h
  refine fhW.blk fhPM fhLL hΓ [(.lload_n 1, 0), (.lconst 0, 0), (.aload_n 0, 0)] (pc' := 3) (lv' := [(0, .ref 0), (1, .long v1)]) (st' := [.ref 0, .long (0 : Int64), .long v1]) (σ' := σ) (by decide +kernel) rfl rfl rfl ?_
  refine fhW.callv hΓ mvX12_guestMany ml_12_423 (t := 0) (ci := 12) (av := []) (rest := [.long (0 : Int64), .long v1]) (r := (some (.int (f_X12_guestMany σ)))) (σ' := σ) (T_X12_guestMany (E := fhEn Γ) (d := fhD Γ - 1) (by omega) σ) (by omega) (by decide +kernel) rfl rfl rfl (Nat.le_of_ble_eq_true rfl) rfl ?_
  show fhW fhYM Γ 6 [(0, .ref 0), (1, .long v1)] [.int (f_X12_guestMany σ), .long (0 : Int64), .long v1] σ
  refine fhW.blk fhPM fhLL hΓ [(.iconst 1, 1), (.isub, 0), (.i2l, 0)] (pc' := 9) (lv' := [(0, .ref 0), (1, .long v1)]) (st' := [.long (Int32.toInt64 ((f_X12_guestMany σ) - (1 : Int32))), .long (0 : Int64), .long v1]) (σ' := σ) (by decide +kernel) rfl rfl rfl ?_
  refine fhW.calls hΓ msX12_isIn ml_12_305 (av := [.long v1, .long (0 : Int64), .long (Int32.toInt64 ((f_X12_guestMany σ) - (1 : Int32)))]) (rest := []) (r := (some (.int (fhb (f_X12_isIn v1 (0 : Int64) (Int32.toInt64 ((f_X12_guestMany σ) - (1 : Int32))) σ))))) (σ' := σ) (T_X12_isIn (E := fhEn Γ) (d := fhD Γ - 1) (by omega) v1 (0 : Int64) (Int32.toInt64 ((f_X12_guestMany σ) - (1 : Int32))) σ) (by omega) (by decide +kernel) rfl (Nat.le_of_ble_eq_true rfl) rfl ?_
  show fhW fhYM Γ 12 [(0, .ref 0), (1, .long v1)] [.int (fhb (f_X12_isIn v1 (0 : Int64) (Int32.toInt64 ((f_X12_guestMany σ) - (1 : Int32))) σ))] σ
  subst h
  exact fhW.zret (v := (f_X12_isIn v1 (0 : Int64) (Int32.toInt64 ((f_X12_guestMany σ) - (1 : Int32))) σ)) hΓ (by decide +kernel) hk
set_option maxRecDepth 100000 in
theorem T_X12_isGuest {E : fhE} {d : Nat} (hd : 1 ≤ d) (v1 : Int64)  (σ : fhM) : fhC fhYM E d miX12_isGuest [.ref 0, .long v1] σ (some (.int (fhb (f_X12_isGuest v1 σ)))) σ := by
  refine fhC.of (y := yX12_isGuest) (cc := cX12_isGuest) (nL := 3) (ret := (some .boolean)) 12 rfl (by decide +kernel) (Nat.le_of_ble_eq_true rfl) ?_
  intro Γ hΓ hR hD hEn
  subst hD; subst hEn
  exact L_X12_isGuest_E hΓ hd v1  σ _ rfl hR
