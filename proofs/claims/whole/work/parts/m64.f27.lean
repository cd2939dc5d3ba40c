/-! the recursive methods of Grammar: by depth -/
def fgMI (w : Nat) : fhMI := match w with
  | 0 => miX5_test
  | 1 => miX5_both
  | 2 => miX5_claim
  | 3 => miX5_sum
  | 4 => miX5_product
  | 5 => miX5_part
  | 6 => miX5_pair
  | _ + 7 => miX5_lookup
def fgAV (w : Nat) (a : Int32) : List Value := match w with
  | 0 => [.ref 9]
  | 1 => [.ref 9]
  | 2 => [.ref 9]
  | 3 => [.ref 9]
  | 4 => [.ref 9]
  | 5 => [.ref 9]
  | 6 => [.ref 9, .int a]
  | _ + 7 => [.ref 9]
set_option maxRecDepth 100000 in
set_option maxHeartbeats 4000000 in
theorem L_X5_test_6 {Γ : fhX} (hE : fhEok fhYF (fhEn Γ)) (hΓ : fhOk fhYF 5 cX5_test 2 none Γ) (hd : 2 ≤ fhD Γ) (r : Nat → Int32 → fhM → Option fhM) (hr : ∀ (w : Nat) (a : Int32) (σ σ2 : fhM), r w a σ = some σ2 → fhC fhYF (fhEn Γ) (fhD Γ - 1) (fgMI w) (fgAV w a) σ none σ2) (v1 : Int32)  (σ : fhM) (o : (Int32 × fhM) ⊕ (fhM)) (h : f_X5_test_6 r v1 σ = some o) (hk : (fhK (fun x => fhW fhYF Γ 6 [(0, .ref 9), (1, .int x.1)] [] x.2) (fun o => fhRet Γ none o)) o) : fhW fhYF Γ 6 [(0, .ref 9), (1, .int v1)] [] σ := by
  unfold f_X5_test_6 at h
  refine fhW.blk fhPF fhLL hΓ [(.iload_n 1, 0), (.sipush 1600, 1600)] (pc' := 10) (lv' := [(0, .ref 9), (1, .int v1)]) (st' := [.int (1600 : Int32), .int v1]) (σ' := σ) (by decide +kernel) rfl rfl rfl ?_
  refine fhW.i_ge hΓ (tgt := 52) (show fhbk _ _ (.if_icmp .ge (42)) _ = true by decide +kernel) (fun hc => ?_) (fun hc => ?_)
  · rw [if_pos hc] at h
    have e9 := Option.some.inj h
    subst e9
    exact fhW.vret hΓ (by decide +kernel) hk
  · rw [if_neg hc] at h
    refine fhW.blk fhPF fhLL hΓ [(.aload_n 0, 0), (.getfield 9, 0), (.bipush 20, 20)] (pc' := 19) (lv' := [(0, .ref 9), (1, .int v1)]) (st' := [.int (20 : Int32), .ref 3]) (σ' := σ) (by decide +kernel) rfl rfl rfl ?_
    refine fhW.callv hΓ mvX8_isWord ml_5_60 (t := 3) (ci := 8) (av := [.int (20 : Int32)]) (rest := []) (r := (some (.int (fhb (f_X8_isWord (20 : Int32) σ))))) (σ' := σ) (T_X8_isWord (E := fhEn Γ) (d := fhD Γ - 1) hE (by omega) (20 : Int32) σ) (by omega) (by decide +kernel) rfl rfl rfl (Nat.le_of_ble_eq_true rfl) rfl ?_
    show fhW fhYF Γ 22 [(0, .ref 9), (1, .int v1)] [.int (fhb (f_X8_isWord (20 : Int32) σ))] σ
    refine fhW.b_eq hΓ (tgt := 52) (show fhbk _ _ (.ifCond .eq (30)) _ = true by decide +kernel) (fun hc => ?_) (fun hc => ?_)
    · rw [if_neg hc] at h
      have e9 := Option.some.inj h
      subst e9
      exact fhW.vret hΓ (by decide +kernel) hk
    · rw [if_pos hc] at h
      refine fhW.blk fhPF fhLL hΓ [(.aload_n 0, 0), (.getfield 9, 0)] (pc' := 29) (lv' := [(0, .ref 9), (1, .int v1)]) (st' := [.ref 3]) (σ' := σ) (by decide +kernel) rfl rfl rfl ?_
      refine fhW.callv hΓ mvX8_advance ml_5_29 (t := 3) (ci := 8) (av := []) (rest := []) (r := none) (σ' := (f_X8_advance σ)) (T_X8_advance (E := fhEn Γ) (d := fhD Γ - 1) hE (by omega) σ) (by omega) (by decide +kernel) rfl rfl rfl (Nat.le_of_ble_eq_true rfl) rfl ?_
      show fhW fhYF Γ 32 [(0, .ref 9), (1, .int v1)] [] (f_X8_advance σ)
      obtain ⟨q2, e1, h⟩ := fhlet_elim h
      rw [← e1]
      refine fhW.blk fhPF fhLL hΓ [(.aload_n 0, 0)] (pc' := 33) (lv' := [(0, .ref 9), (1, .int v1)]) (st' := [.ref 9]) (σ' := q2) (by decide +kernel) rfl rfl rfl ?_
      obtain ⟨q3, hb1, h⟩ := Option.bind_eq_some_iff.mp h
      refine fhW.callv hΓ mvX5_both ml_5_57 (t := 9) (ci := 5) (av := []) (rest := []) (r := none) (σ' := q3) (hr 1 0 q2 _ hb1) (by omega) (by decide +kernel) rfl rfl rfl (Nat.le_of_ble_eq_true rfl) rfl ?_
      show fhW fhYF Γ 36 [(0, .ref 9), (1, .int v1)] [] q3
      refine fhW.blk fhPF fhLL hΓ [(.aload_n 0, 0), (.getfield 15, 0), (.bipush 14, 14), (.iconst 0, 0)] (pc' := 43) (lv' := [(0, .ref 9), (1, .int v1)]) (st' := [.int (0 : Int32), .int (14 : Int32), .ref (q3.2.2 9 1)]) (σ' := q3) (by decide +kernel) rfl rfl rfl ?_
      obtain ⟨hy1, h⟩ := fhif h
      refine fhW.callv hΓ mvX3_add ml_5_64 (t := (q3.2.2 9 1)) (ci := 3) (av := [.int (14 : Int32), .int (0 : Int32)]) (rest := []) (r := none) (σ' := (f_X3_add (q3.2.2 9 1) (14 : Int32) (0 : Int32) q3)) (T_X3_add (E := fhEn Γ) (d := fhD Γ - 1) hE (by omega) (q3.2.2 9 1) (14 : Int32) (0 : Int32) hy1 q3) (by omega) (by decide +kernel) rfl (fhiK_g hy1) rfl (Nat.le_of_ble_eq_true rfl) rfl ?_
      show fhW fhYF Γ 46 [(0, .ref 9), (1, .int v1)] [] (f_X3_add (q3.2.2 9 1) (14 : Int32) (0 : Int32) q3)
      obtain ⟨q4, e2, h⟩ := fhlet_elim h
      rw [← e2]
      refine fhW.blk fhPF fhLL hΓ [(.iinc 1 1, 1)] (pc' := 49) (lv' := [(1, .int (v1 + (1 : Int32))), (0, .ref 9)]) (st' := []) (σ' := q4) (by decide +kernel) rfl rfl rfl ?_
      refine fhW.goto hΓ (off := (-43)) (tgt := 6) (by decide +kernel) ?_
      refine fhW.sub (lv' := [(0, .ref 9), (1, .int (v1 + (1 : Int32)))]) [1, 0] rfl ?_
      have e9 := Option.some.inj h
      subst e9
      exact hk
set_option maxRecDepth 100000 in
set_option maxHeartbeats 4000000 in
theorem L_X5_test_E {Γ : fhX} (hE : fhEok fhYF (fhEn Γ)) (hΓ : fhOk fhYF 5 cX5_test 2 none Γ) (hd : 2 ≤ fhD Γ) (r : Nat → Int32 → fhM → Option fhM) (hr : ∀ (w : Nat) (a : Int32) (σ σ2 : fhM), r w a σ = some σ2 → fhC fhYF (fhEn Γ) (fhD Γ - 1) (fgMI w) (fgAV w a) σ none σ2)   (σ : fhM) (o : fhM) (h : f_X5_test r σ = some o) (hk : (fun o => fhRet Γ none o) o) : fhW fhYF Γ 0 [(0, .ref 9)] [] σ := by
  unfold f_X5_test at h
  refine fhW.blk fhPF fhLL hΓ [(.aload_n 0, 0)] (pc' := 1) (lv' := [(0, .ref 9)]) (st' := [.ref 9]) (σ' := σ) (by decide +kernel) rfl rfl rfl ?_
  obtain ⟨q1, hb2, h⟩ := Option.bind_eq_some_iff.mp h
  refine fhW.callv hΓ mvX5_both ml_5_57 (t := 9) (ci := 5) (av := []) (rest := []) (r := none) (σ' := q1) (hr 1 0 σ _ hb2) (by omega) (by decide +kernel) rfl rfl rfl (Nat.le_of_ble_eq_true rfl) rfl ?_
  show fhW fhYF Γ 4 [(0, .ref 9)] [] q1
  refine fhW.blk fhPF fhLL hΓ [(.iconst 0, 0), (.istore_n 1, 0)] (pc' := 6) (lv' := [(1, .int (0 : Int32)), (0, .ref 9)]) (st' := []) (σ' := q1) (by decide +kernel) rfl rfl rfl ?_
  refine fhW.sub (lv' := [(0, .ref 9), (1, .int (0 : Int32))]) [1, 0] rfl ?_
  exact fhlp_ok (W := (fun x => fhW fhYF Γ 6 [(0, .ref 9), (1, .int x.1)] [] x.2)) (B := (fun o => fhRet Γ none o)) (fun x o h hk => L_X5_test_6 hE hΓ hd r hr x.1 x.2 o h hk) ((0 : Int32), q1) _ h hk
set_option maxRecDepth 100000 in
set_option maxHeartbeats 4000000 in
theorem L_X5_both_6 {Γ : fhX} (hE : fhEok fhYF (fhEn Γ)) (hΓ : fhOk fhYF 5 cX5_both 2 none Γ) (hd : 2 ≤ fhD Γ) (r : Nat → Int32 → fhM → Option fhM) (hr : ∀ (w : Nat) (a : Int32) (σ σ2 : fhM), r w a σ = some σ2 → fhC fhYF (fhEn Γ) (fhD Γ - 1) (fgMI w) (fgAV w a) σ none σ2) (v1 : Int32)  (σ : fhM) (o : (Int32 × fhM) ⊕ (fhM)) (h : f_X5_both_6 r v1 σ = some o) (hk : (fhK (fun x => fhW fhYF Γ 6 [(0, .ref 9), (1, .int x.1)] [] x.2) (fun o => fhRet Γ none o)) o) : fhW fhYF Γ 6 [(0, .ref 9), (1, .int v1)] [] σ := by
  unfold f_X5_both_6 at h
  refine fhW.blk fhPF fhLL hΓ [(.iload_n 1, 0), (.sipush 1600, 1600)] (pc' := 10) (lv' := [(0, .ref 9), (1, .int v1)]) (st' := [.int (1600 : Int32), .int v1]) (σ' := σ) (by decide +kernel) rfl rfl rfl ?_
  refine fhW.i_ge hΓ (tgt := 52) (show fhbk _ _ (.if_icmp .ge (42)) _ = true by decide +kernel) (fun hc => ?_) (fun hc => ?_)
  · rw [if_pos hc] at h
    have e9 := Option.some.inj h
    subst e9
    exact fhW.vret hΓ (by decide +kernel) hk
  · rw [if_neg hc] at h
    refine fhW.blk fhPF fhLL hΓ [(.aload_n 0, 0), (.getfield 9, 0), (.bipush 21, 21)] (pc' := 19) (lv' := [(0, .ref 9), (1, .int v1)]) (st' := [.int (21 : Int32), .ref 3]) (σ' := σ) (by decide +kernel) rfl rfl rfl ?_
    refine fhW.callv hΓ mvX8_isWord ml_5_60 (t := 3) (ci := 8) (av := [.int (21 : Int32)]) (rest := []) (r := (some (.int (fhb (f_X8_isWord (21 : Int32) σ))))) (σ' := σ) (T_X8_isWord (E := fhEn Γ) (d := fhD Γ - 1) hE (by omega) (21 : Int32) σ) (by omega) (by decide +kernel) rfl rfl rfl (Nat.le_of_ble_eq_true rfl) rfl ?_
    show fhW fhYF Γ 22 [(0, .ref 9), (1, .int v1)] [.int (fhb (f_X8_isWord (21 : Int32) σ))] σ
    refine fhW.b_eq hΓ (tgt := 52) (show fhbk _ _ (.ifCond .eq (30)) _ = true by decide +kernel) (fun hc => ?_) (fun hc => ?_)
    · rw [if_neg hc] at h
      have e9 := Option.some.inj h
      subst e9
      exact fhW.vret hΓ (by decide +kernel) hk
    · rw [if_pos hc] at h
      refine fhW.blk fhPF fhLL hΓ [(.aload_n 0, 0), (.getfield 9, 0)] (pc' := 29) (lv' := [(0, .ref 9), (1, .int v1)]) (st' := [.ref 3]) (σ' := σ) (by decide +kernel) rfl rfl rfl ?_
      refine fhW.callv hΓ mvX8_advance ml_5_29 (t := 3) (ci := 8) (av := []) (rest := []) (r := none) (σ' := (f_X8_advance σ)) (T_X8_advance (E := fhEn Γ) (d := fhD Γ - 1) hE (by omega) σ) (by omega) (by decide +kernel) rfl rfl rfl (Nat.le_of_ble_eq_true rfl) rfl ?_
      show fhW fhYF Γ 32 [(0, .ref 9), (1, .int v1)] [] (f_X8_advance σ)
      obtain ⟨q2, e1, h⟩ := fhlet_elim h
      rw [← e1]
      refine fhW.blk fhPF fhLL hΓ [(.aload_n 0, 0)] (pc' := 33) (lv' := [(0, .ref 9), (1, .int v1)]) (st' := [.ref 9]) (σ' := q2) (by decide +kernel) rfl rfl rfl ?_
      obtain ⟨q3, hb1, h⟩ := Option.bind_eq_some_iff.mp h
      refine fhW.callv hΓ mvX5_claim ml_5_70 (t := 9) (ci := 5) (av := []) (rest := []) (r := none) (σ' := q3) (hr 2 0 q2 _ hb1) (by omega) (by decide +kernel) rfl rfl rfl (Nat.le_of_ble_eq_true rfl) rfl ?_
      show fhW fhYF Γ 36 [(0, .ref 9), (1, .int v1)] [] q3
      refine fhW.blk fhPF fhLL hΓ [(.aload_n 0, 0), (.getfield 15, 0), (.bipush 13, 13), (.iconst 0, 0)] (pc' := 43) (lv' := [(0, .ref 9), (1, .int v1)]) (st' := [.int (0 : Int32), .int (13 : Int32), .ref (q3.2.2 9 1)]) (σ' := q3) (by decide +kernel) rfl rfl rfl ?_
      obtain ⟨hy1, h⟩ := fhif h
      refine fhW.callv hΓ mvX3_add ml_5_64 (t := (q3.2.2 9 1)) (ci := 3) (av := [.int (13 : Int32), .int (0 : Int32)]) (rest := []) (r := none) (σ' := (f_X3_add (q3.2.2 9 1) (13 : Int32) (0 : Int32) q3)) (T_X3_add (E := fhEn Γ) (d := fhD Γ - 1) hE (by omega) (q3.2.2 9 1) (13 : Int32) (0 : Int32) hy1 q3) (by omega) (by decide +kernel) rfl (fhiK_g hy1) rfl (Nat.le_of_ble_eq_true rfl) rfl ?_
      show fhW fhYF Γ 46 [(0, .ref 9), (1, .int v1)] [] (f_X3_add (q3.2.2 9 1) (13 : Int32) (0 : Int32) q3)
      obtain ⟨q4, e2, h⟩ := fhlet_elim h
      rw [← e2]
      refine fhW.blk fhPF fhLL hΓ [(.iinc 1 1, 1)] (pc' := 49) (lv' := [(1, .int (v1 + (1 : Int32))), (0, .ref 9)]) (st' := []) (σ' := q4) (by decide +kernel) rfl rfl rfl ?_
      refine fhW.goto hΓ (off := (-43)) (tgt := 6) (by decide +kernel) ?_
      refine fhW.sub (lv' := [(0, .ref 9), (1, .int (v1 + (1 : Int32)))]) [1, 0] rfl ?_
      have e9 := Option.some.inj h
      subst e9
      exact hk
set_option maxRecDepth 100000 in
set_option maxHeartbeats 4000000 in
theorem L_X5_both_E {Γ : fhX} (hE : fhEok fhYF (fhEn Γ)) (hΓ : fhOk fhYF 5 cX5_both 2 none Γ) (hd : 2 ≤ fhD Γ) (r : Nat → Int32 → fhM → Option fhM) (hr : ∀ (w : Nat) (a : Int32) (σ σ2 : fhM), r w a σ = some σ2 → fhC fhYF (fhEn Γ) (fhD Γ - 1) (fgMI w) (fgAV w a) σ none σ2)   (σ : fhM) (o : fhM) (h : f_X5_both r σ = some o) (hk : (fun o => fhRet Γ none o) o) : fhW fhYF Γ 0 [(0, .ref 9)] [] σ := by
  unfold f_X5_both at h
  refine fhW.blk fhPF fhLL hΓ [(.aload_n 0, 0)] (pc' := 1) (lv' := [(0, .ref 9)]) (st' := [.ref 9]) (σ' := σ) (by decide +kernel) rfl rfl rfl ?_
  obtain ⟨q1, hb2, h⟩ := Option.bind_eq_some_iff.mp h
  refine fhW.callv hΓ mvX5_claim ml_5_70 (t := 9) (ci := 5) (av := []) (rest := []) (r := none) (σ' := q1) (hr 2 0 σ _ hb2) (by omega) (by decide +kernel) rfl rfl rfl (Nat.le_of_ble_eq_true rfl) rfl ?_
  show fhW fhYF Γ 4 [(0, .ref 9)] [] q1
  refine fhW.blk fhPF fhLL hΓ [(.iconst 0, 0), (.istore_n 1, 0)] (pc' := 6) (lv' := [(1, .int (0 : Int32)), (0, .ref 9)]) (st' := []) (σ' := q1) (by decide +kernel) rfl rfl rfl ?_
  refine fhW.sub (lv' := [(0, .ref 9), (1, .int (0 : Int32))]) [1, 0] rfl ?_
  exact fhlp_ok (W := (fun x => fhW fhYF Γ 6 [(0, .ref 9), (1, .int x.1)] [] x.2)) (B := (fun o => fhRet Γ none o)) (fun x o h hk => L_X5_both_6 hE hΓ hd r hr x.1 x.2 o h hk) ((0 : Int32), q1) _ h hk
set_option maxRecDepth 100000 in
set_option maxHeartbeats 4000000 in
theorem L_X5_claim_E {Γ : fhX} (hE : fhEok fhYF (fhEn Γ)) (hΓ : fhOk fhYF 5 cX5_claim 2 none Γ) (hd : 3 ≤ fhD Γ) (r : Nat → Int32 → fhM → Option fhM) (hr : ∀ (w : Nat) (a : Int32) (σ σ2 : fhM), r w a σ = some σ2 → fhC fhYF (fhEn Γ) (fhD Γ - 1) (fgMI w) (fgAV w a) σ none σ2)   (σ : fhM) (o : fhM) (h : f_X5_claim r σ = some o) (hk : (fun o => fhRet Γ none o) o) : fhW fhYF Γ 0 [(0, .ref 9)] [] σ := by
  unfold f_X5_claim at h
  refine fhW.blk fhPF fhLL hΓ [(.aload_n 0, 0), (.getfield 9, 0), (.bipush 91, 91)] (pc' := 6) (lv' := [(0, .ref 9)]) (st' := [.int (91 : Int32), .ref 3]) (σ' := σ) (by decide +kernel) rfl rfl rfl ?_
  refine fhW.callv hΓ mvX8_isSign ml_5_73 (t := 3) (ci := 8) (av := [.int (91 : Int32)]) (rest := []) (r := (some (.int (fhb (f_X8_isSign (91 : Int32) σ))))) (σ' := σ) (T_X8_isSign (E := fhEn Γ) (d := fhD Γ - 1) hE (by omega) (91 : Int32) σ) (by omega) (by decide +kernel) rfl rfl rfl (Nat.le_of_ble_eq_true rfl) rfl ?_
  show fhW fhYF Γ 9 [(0, .ref 9)] [.int (fhb (f_X8_isSign (91 : Int32) σ))] σ
  refine fhW.b_eq hΓ (tgt := 45) (show fhbk _ _ (.ifCond .eq (36)) _ = true by decide +kernel) (fun hc => ?_) (fun hc => ?_)
  · rw [if_neg hc] at h
    refine fhW.blk fhPF fhLL hΓ [(.aload_n 0, 0), (.getfield 9, 0), (.bipush 22, 22)] (pc' := 51) (lv' := [(0, .ref 9)]) (st' := [.int (22 : Int32), .ref 3]) (σ' := σ) (by decide +kernel) rfl rfl rfl ?_
    refine fhW.callv hΓ mvX8_isWord ml_5_60 (t := 3) (ci := 8) (av := [.int (22 : Int32)]) (rest := []) (r := (some (.int (fhb (f_X8_isWord (22 : Int32) σ))))) (σ' := σ) (T_X8_isWord (E := fhEn Γ) (d := fhD Γ - 1) hE (by omega) (22 : Int32) σ) (by omega) (by decide +kernel) rfl rfl rfl (Nat.le_of_ble_eq_true rfl) rfl ?_
    show fhW fhYF Γ 54 [(0, .ref 9)] [.int (fhb (f_X8_isWord (22 : Int32) σ))] σ
    refine fhW.b_eq hΓ (tgt := 90) (show fhbk _ _ (.ifCond .eq (36)) _ = true by decide +kernel) (fun hc => ?_) (fun hc => ?_)
    · rw [if_neg hc] at h
      refine fhW.blk fhPF fhLL hΓ [(.aload_n 0, 0), (.getfield 9, 0), (.bipush 23, 23)] (pc' := 96) (lv' := [(0, .ref 9)]) (st' := [.int (23 : Int32), .ref 3]) (σ' := σ) (by decide +kernel) rfl rfl rfl ?_
      refine fhW.callv hΓ mvX8_isWord ml_5_60 (t := 3) (ci := 8) (av := [.int (23 : Int32)]) (rest := []) (r := (some (.int (fhb (f_X8_isWord (23 : Int32) σ))))) (σ' := σ) (T_X8_isWord (E := fhEn Γ) (d := fhD Γ - 1) hE (by omega) (23 : Int32) σ) (by omega) (by decide +kernel) rfl rfl rfl (Nat.le_of_ble_eq_true rfl) rfl ?_
      show fhW fhYF Γ 99 [(0, .ref 9)] [.int (fhb (f_X8_isWord (23 : Int32) σ))] σ
      refine fhW.b_eq hΓ (tgt := 121) (show fhbk _ _ (.ifCond .eq (22)) _ = true by decide +kernel) (fun hc => ?_) (fun hc => ?_)
      · rw [if_neg hc] at h
        refine fhW.blk fhPF fhLL hΓ [(.aload_n 0, 0)] (pc' := 122) (lv' := [(0, .ref 9)]) (st' := [.ref 9]) (σ' := σ) (by decide +kernel) rfl rfl rfl ?_
        obtain ⟨q1, hb1, h⟩ := Option.bind_eq_some_iff.mp h
        refine fhW.callv hΓ mvX5_sum ml_5_35 (t := 9) (ci := 5) (av := []) (rest := []) (r := none) (σ' := q1) (hr 3 0 σ _ hb1) (by omega) (by decide +kernel) rfl rfl rfl (Nat.le_of_ble_eq_true rfl) rfl ?_
        show fhW fhYF Γ 125 [(0, .ref 9)] [] q1
        refine fhW.blk fhPF fhLL hΓ [(.aload_n 0, 0)] (pc' := 126) (lv' := [(0, .ref 9)]) (st' := [.ref 9]) (σ' := q1) (by decide +kernel) rfl rfl rfl ?_
        refine fhW.callv hΓ mvX5_signHere ml_5_84 (t := 9) (ci := 5) (av := []) (rest := []) (r := (some (.int (f_X5_signHere q1).1))) (σ' := (f_X5_signHere q1).2) (T_X5_signHere (E := fhEn Γ) (d := fhD Γ - 1) hE (by omega) q1) (by omega) (by decide +kernel) rfl rfl rfl (Nat.le_of_ble_eq_true rfl) rfl ?_
        show fhW fhYF Γ 129 [(0, .ref 9)] [.int (f_X5_signHere q1).1] (f_X5_signHere q1).2
        obtain ⟨q2, e1, h⟩ := fhlet_elim h
        rw [← e1]
        refine fhW.blk fhPF fhLL hΓ [(.istore_n 1, 0), (.aload_n 0, 0), (.getfield 9, 0)] (pc' := 134) (lv' := [(1, .int q2.1), (0, .ref 9)]) (st' := [.ref 3]) (σ' := q2.2) (by decide +kernel) rfl rfl rfl ?_
        refine fhW.callv hΓ mvX8_advance ml_5_29 (t := 3) (ci := 8) (av := []) (rest := []) (r := none) (σ' := (f_X8_advance q2.2)) (T_X8_advance (E := fhEn Γ) (d := fhD Γ - 1) hE (by omega) q2.2) (by omega) (by decide +kernel) rfl rfl rfl (Nat.le_of_ble_eq_true rfl) rfl ?_
        show fhW fhYF Γ 137 [(1, .int q2.1), (0, .ref 9)] [] (f_X8_advance q2.2)
        obtain ⟨q3, e2, h⟩ := fhlet_elim h
        rw [← e2]
        refine fhW.blk fhPF fhLL hΓ [(.aload_n 0, 0)] (pc' := 138) (lv' := [(1, .int q2.1), (0, .ref 9)]) (st' := [.ref 9]) (σ' := q3) (by decide +kernel) rfl rfl rfl ?_
        obtain ⟨q4, hb2, h⟩ := Option.bind_eq_some_iff.mp h
        refine fhW.callv hΓ mvX5_sum ml_5_35 (t := 9) (ci := 5) (av := []) (rest := []) (r := none) (σ' := q4) (hr 3 0 q3 _ hb2) (by omega) (by decide +kernel) rfl rfl rfl (Nat.le_of_ble_eq_true rfl) rfl ?_
        show fhW fhYF Γ 141 [(1, .int q2.1), (0, .ref 9)] [] q4
        refine fhW.blk fhPF fhLL hΓ [(.aload_n 0, 0), (.getfield 15, 0), (.iload_n 1, 0), (.iconst 0, 0)] (pc' := 147) (lv' := [(1, .int q2.1), (0, .ref 9)]) (st' := [.int (0 : Int32), .int q2.1, .ref (q4.2.2 9 1)]) (σ' := q4) (by decide +kernel) rfl rfl rfl ?_
        obtain ⟨hy1, h⟩ := fhif h
        refine fhW.callv hΓ mvX3_add ml_5_64 (t := (q4.2.2 9 1)) (ci := 3) (av := [.int q2.1, .int (0 : Int32)]) (rest := []) (r := none) (σ' := (f_X3_add (q4.2.2 9 1) q2.1 (0 : Int32) q4)) (T_X3_add (E := fhEn Γ) (d := fhD Γ - 1) hE (by omega) (q4.2.2 9 1) q2.1 (0 : Int32) hy1 q4) (by omega) (by decide +kernel) rfl (fhiK_g hy1) rfl (Nat.le_of_ble_eq_true rfl) rfl ?_
        show fhW fhYF Γ 150 [(1, .int q2.1), (0, .ref 9)] [] (f_X3_add (q4.2.2 9 1) q2.1 (0 : Int32) q4)
        obtain ⟨q5, e3, h⟩ := fhlet_elim h
        rw [← e3]
        have e9 := Option.some.inj h
        subst e9
        exact fhW.vret hΓ (by decide +kernel) hk
      · rw [if_pos hc] at h
        refine fhW.blk fhPF fhLL hΓ [(.aload_n 0, 0), (.getfield 15, 0), (.iconst 0, 0), (.iconst 1, 1)] (pc' := 108) (lv' := [(0, .ref 9)]) (st' := [.int (1 : Int32), .int (0 : Int32), .ref (σ.2.2 9 1)]) (σ' := σ) (by decide +kernel) rfl rfl rfl ?_
        obtain ⟨hy2, h⟩ := fhif h
        refine fhW.callv hΓ mvX3_add ml_5_64 (t := (σ.2.2 9 1)) (ci := 3) (av := [.int (0 : Int32), .int (1 : Int32)]) (rest := []) (r := none) (σ' := (f_X3_add (σ.2.2 9 1) (0 : Int32) (1 : Int32) σ)) (T_X3_add (E := fhEn Γ) (d := fhD Γ - 1) hE (by omega) (σ.2.2 9 1) (0 : Int32) (1 : Int32) hy2 σ) (by omega) (by decide +kernel) rfl (fhiK_g hy2) rfl (Nat.le_of_ble_eq_true rfl) rfl ?_
        show fhW fhYF Γ 111 [(0, .ref 9)] [] (f_X3_add (σ.2.2 9 1) (0 : Int32) (1 : Int32) σ)
        obtain ⟨q6, e4, h⟩ := fhlet_elim h
        rw [← e4]
        refine fhW.blk fhPF fhLL hΓ [(.aload_n 0, 0), (.getfield 9, 0)] (pc' := 115) (lv' := [(0, .ref 9)]) (st' := [.ref 3]) (σ' := q6) (by decide +kernel) rfl rfl rfl ?_
        refine fhW.callv hΓ mvX8_advance ml_5_29 (t := 3) (ci := 8) (av := []) (rest := []) (r := none) (σ' := (f_X8_advance q6)) (T_X8_advance (E := fhEn Γ) (d := fhD Γ - 1) hE (by omega) q6) (by omega) (by decide +kernel) rfl rfl rfl (Nat.le_of_ble_eq_true rfl) rfl ?_
        show fhW fhYF Γ 118 [(0, .ref 9)] [] (f_X8_advance q6)
        obtain ⟨q7, e5, h⟩ := fhlet_elim h
        rw [← e5]
        refine fhW.goto hΓ (off := 32) (tgt := 150) (by decide +kernel) ?_
        have e9 := Option.some.inj h
        subst e9
        exact fhW.vret hΓ (by decide +kernel) hk
    · rw [if_pos hc] at h
      refine fhW.blk fhPF fhLL hΓ [(.aload_n 0, 0)] (pc' := 58) (lv' := [(0, .ref 9)]) (st' := [.ref 9]) (σ' := σ) (by decide +kernel) rfl rfl rfl ?_
      refine fhW.callv hΓ mvX5_goDeeper ml_5_77 (t := 9) (ci := 5) (av := []) (rest := []) (r := (some (.int (fhb (f_X5_goDeeper σ).1)))) (σ' := (f_X5_goDeeper σ).2) (T_X5_goDeeper (E := fhEn Γ) (d := fhD Γ - 1) hE (by omega) σ) (by omega) (by decide +kernel) rfl rfl rfl (Nat.le_of_ble_eq_true rfl) rfl ?_
      show fhW fhYF Γ 61 [(0, .ref 9)] [.int (fhb (f_X5_goDeeper σ).1)] (f_X5_goDeeper σ).2
      obtain ⟨q8, e6, h⟩ := fhlet_elim h
      rw [← e6]
      refine fhW.b_eq hΓ (tgt := 150) (show fhbk _ _ (.ifCond .eq (89)) _ = true by decide +kernel) (fun hc => ?_) (fun hc => ?_)
      · rw [if_neg hc] at h
        have e9 := Option.some.inj h
        subst e9
        exact fhW.vret hΓ (by decide +kernel) hk
      · rw [if_pos hc] at h
        refine fhW.blk fhPF fhLL hΓ [(.aload_n 0, 0)] (pc' := 65) (lv' := [(0, .ref 9)]) (st' := [.ref 9]) (σ' := q8.2) (by decide +kernel) rfl rfl rfl ?_
        obtain ⟨q9, hb3, h⟩ := Option.bind_eq_some_iff.mp h
        refine fhW.callv hΓ mvX5_claim ml_5_70 (t := 9) (ci := 5) (av := []) (rest := []) (r := none) (σ' := q9) (hr 2 0 q8.2 _ hb3) (by omega) (by decide +kernel) rfl rfl rfl (Nat.le_of_ble_eq_true rfl) rfl ?_
        show fhW fhYF Γ 68 [(0, .ref 9)] [] q9
        refine fhW.blk fhPF fhLL hΓ [(.aload_n 0, 0), (.getfield 15, 0), (.iconst 3, 3), (.iconst 0, 0)] (pc' := 74) (lv' := [(0, .ref 9)]) (st' := [.int (0 : Int32), .int (3 : Int32), .ref (q9.2.2 9 1)]) (σ' := q9) (by decide +kernel) rfl rfl rfl ?_
        obtain ⟨hy3, h⟩ := fhif h
        refine fhW.callv hΓ mvX3_add ml_5_64 (t := (q9.2.2 9 1)) (ci := 3) (av := [.int (3 : Int32), .int (0 : Int32)]) (rest := []) (r := none) (σ' := (f_X3_add (q9.2.2 9 1) (3 : Int32) (0 : Int32) q9)) (T_X3_add (E := fhEn Γ) (d := fhD Γ - 1) hE (by omega) (q9.2.2 9 1) (3 : Int32) (0 : Int32) hy3 q9) (by omega) (by decide +kernel) rfl (fhiK_g hy3) rfl (Nat.le_of_ble_eq_true rfl) rfl ?_
        show fhW fhYF Γ 77 [(0, .ref 9)] [] (f_X3_add (q9.2.2 9 1) (3 : Int32) (0 : Int32) q9)
        obtain ⟨q10, e7, h⟩ := fhlet_elim h
        rw [← e7]
        refine fhW.blk fhPF fhLL hΓ [(.aload_n 0, 0), (.dup, 0), (.getfield 53, 0), (.iconst 1, 1), (.isub, 0), (.putfield 53, 0)] (pc' := 87) (lv' := [(0, .ref 9)]) (st' := []) (σ' := (fhI q10 9 4 ((q10.1 9 4) - (1 : Int32)))) (by decide +kernel) rfl rfl rfl ?_
        refine fhW.goto hΓ (off := 63) (tgt := 150) (by decide +kernel) ?_
        have e9 := Option.some.inj h
        subst e9
        exact fhW.vret hΓ (by decide +kernel) hk
  · rw [if_pos hc] at h
    refine fhW.blk fhPF fhLL hΓ [(.aload_n 0, 0)] (pc' := 13) (lv' := [(0, .ref 9)]) (st' := [.ref 9]) (σ' := σ) (by decide +kernel) rfl rfl rfl ?_
    refine fhW.callv hΓ mvX5_goDeeper ml_5_77 (t := 9) (ci := 5) (av := []) (rest := []) (r := (some (.int (fhb (f_X5_goDeeper σ).1)))) (σ' := (f_X5_goDeeper σ).2) (T_X5_goDeeper (E := fhEn Γ) (d := fhD Γ - 1) hE (by omega) σ) (by omega) (by decide +kernel) rfl rfl rfl (Nat.le_of_ble_eq_true rfl) rfl ?_
    show fhW fhYF Γ 16 [(0, .ref 9)] [.int (fhb (f_X5_goDeeper σ).1)] (f_X5_goDeeper σ).2
    obtain ⟨q11, e8, h⟩ := fhlet_elim h
    rw [← e8]
    refine fhW.b_eq hΓ (tgt := 150) (show fhbk _ _ (.ifCond .eq (134)) _ = true by decide +kernel) (fun hc => ?_) (fun hc => ?_)
    · rw [if_neg hc] at h
      have e9 := Option.some.inj h
      subst e9
      exact fhW.vret hΓ (by decide +kernel) hk
    · rw [if_pos hc] at h
      refine fhW.blk fhPF fhLL hΓ [(.aload_n 0, 0)] (pc' := 20) (lv' := [(0, .ref 9)]) (st' := [.ref 9]) (σ' := q11.2) (by decide +kernel) rfl rfl rfl ?_
      obtain ⟨q12, hb4, h⟩ := Option.bind_eq_some_iff.mp h
      refine fhW.callv hΓ mvX5_test ml_5_32 (t := 9) (ci := 5) (av := []) (rest := []) (r := none) (σ' := q12) (hr 0 0 q11.2 _ hb4) (by omega) (by decide +kernel) rfl rfl rfl (Nat.le_of_ble_eq_true rfl) rfl ?_
      show fhW fhYF Γ 23 [(0, .ref 9)] [] q12
      refine fhW.blk fhPF fhLL hΓ [(.aload_n 0, 0), (.getfield 9, 0), (.bipush 93, 93)] (pc' := 29) (lv' := [(0, .ref 9)]) (st' := [.int (93 : Int32), .ref 3]) (σ' := q12) (by decide +kernel) rfl rfl rfl ?_
      refine fhW.callv hΓ mvX8_takeSign ml_5_80 (t := 3) (ci := 8) (av := [.int (93 : Int32)]) (rest := []) (r := none) (σ' := (f_X8_takeSign (93 : Int32) q12)) (T_X8_takeSign (E := fhEn Γ) (d := fhD Γ - 1) hE (by omega) (93 : Int32) q12) (by omega) (by decide +kernel) rfl rfl rfl (Nat.le_of_ble_eq_true rfl) rfl ?_
      show fhW fhYF Γ 32 [(0, .ref 9)] [] (f_X8_takeSign (93 : Int32) q12)
      obtain ⟨q13, e9, h⟩ := fhlet_elim h
      rw [← e9]
      refine fhW.blk fhPF fhLL hΓ [(.aload_n 0, 0), (.dup, 0), (.getfield 53, 0), (.iconst 1, 1), (.isub, 0), (.putfield 53, 0)] (pc' := 42) (lv' := [(0, .ref 9)]) (st' := []) (σ' := (fhI q13 9 4 ((q13.1 9 4) - (1 : Int32)))) (by decide +kernel) rfl rfl rfl ?_
      refine fhW.goto hΓ (off := 108) (tgt := 150) (by decide +kernel) ?_
      have e9 := Option.some.inj h
      subst e9
      exact fhW.vret hΓ (by decide +kernel) hk
set_option maxRecDepth 100000 in
set_option maxHeartbeats 4000000 in
theorem L_X5_sum_54 {Γ : fhX} (hE : fhEok fhYF (fhEn Γ)) (hΓ : fhOk fhYF 5 cX5_sum 3 none Γ) (hd : 2 ≤ fhD Γ) (r : Nat → Int32 → fhM → Option fhM) (hr : ∀ (w : Nat) (a : Int32) (σ σ2 : fhM), r w a σ = some σ2 → fhC fhYF (fhEn Γ) (fhD Γ - 1) (fgMI w) (fgAV w a) σ none σ2) (v1 : Int32) (s0 : Int32)  (σ : fhM) (o : (Int32 × fhM) ⊕ (fhM)) (h : f_X5_sum_54 r v1 s0 σ = some o) (hk : (fhK (fun x => fhW fhYF Γ 6 [(0, .ref 9), (1, .int x.1)] [] x.2) (fun o => fhRet Γ none o)) o) : fhW fhYF Γ 54 [(0, .ref 9), (1, .int v1)] [.int s0] σ := by
  unfold f_X5_sum_54 at h
  refine fhW.blk fhPF fhLL hΓ [(.istore_n 2, 0), (.aload_n 0, 0), (.getfield 9, 0)] (pc' := 59) (lv' := [(2, .int s0), (0, .ref 9), (1, .int v1)]) (st' := [.ref 3]) (σ' := σ) (by decide +kernel) rfl rfl rfl ?_
  refine fhW.callv hΓ mvX8_advance ml_5_29 (t := 3) (ci := 8) (av := []) (rest := []) (r := none) (σ' := (f_X8_advance σ)) (T_X8_advance (E := fhEn Γ) (d := fhD Γ - 1) hE (by omega) σ) (by omega) (by decide +kernel) rfl rfl rfl (Nat.le_of_ble_eq_true rfl) rfl ?_
  show fhW fhYF Γ 62 [(2, .int s0), (0, .ref 9), (1, .int v1)] [] (f_X8_advance σ)
  obtain ⟨q2, e1, h⟩ := fhlet_elim h
  rw [← e1]
  refine fhW.blk fhPF fhLL hΓ [(.aload_n 0, 0)] (pc' := 63) (lv' := [(2, .int s0), (0, .ref 9), (1, .int v1)]) (st' := [.ref 9]) (σ' := q2) (by decide +kernel) rfl rfl rfl ?_
  obtain ⟨q3, hb1, h⟩ := Option.bind_eq_some_iff.mp h
  refine fhW.callv hΓ mvX5_product ml_5_93 (t := 9) (ci := 5) (av := []) (rest := []) (r := none) (σ' := q3) (hr 4 0 q2 _ hb1) (by omega) (by decide +kernel) rfl rfl rfl (Nat.le_of_ble_eq_true rfl) rfl ?_
  show fhW fhYF Γ 66 [(2, .int s0), (0, .ref 9), (1, .int v1)] [] q3
  refine fhW.blk fhPF fhLL hΓ [(.aload_n 0, 0), (.getfield 15, 0), (.iload_n 2, 0), (.iconst 0, 0)] (pc' := 72) (lv' := [(2, .int s0), (0, .ref 9), (1, .int v1)]) (st' := [.int (0 : Int32), .int s0, .ref (q3.2.2 9 1)]) (σ' := q3) (by decide +kernel) rfl rfl rfl ?_
  obtain ⟨hy1, h⟩ := fhif h
  refine fhW.callv hΓ mvX3_add ml_5_64 (t := (q3.2.2 9 1)) (ci := 3) (av := [.int s0, .int (0 : Int32)]) (rest := []) (r := none) (σ' := (f_X3_add (q3.2.2 9 1) s0 (0 : Int32) q3)) (T_X3_add (E := fhEn Γ) (d := fhD Γ - 1) hE (by omega) (q3.2.2 9 1) s0 (0 : Int32) hy1 q3) (by omega) (by decide +kernel) rfl (fhiK_g hy1) rfl (Nat.le_of_ble_eq_true rfl) rfl ?_
  show fhW fhYF Γ 75 [(2, .int s0), (0, .ref 9), (1, .int v1)] [] (f_X3_add (q3.2.2 9 1) s0 (0 : Int32) q3)
  obtain ⟨q4, e2, h⟩ := fhlet_elim h
  rw [← e2]
  refine fhW.blk fhPF fhLL hΓ [(.iinc 1 1, 1)] (pc' := 78) (lv' := [(1, .int (v1 + (1 : Int32))), (2, .int s0), (0, .ref 9)]) (st' := []) (σ' := q4) (by decide +kernel) rfl rfl rfl ?_
  refine fhW.goto hΓ (off := (-72)) (tgt := 6) (by decide +kernel) ?_
  refine fhW.sub (lv' := [(0, .ref 9), (1, .int (v1 + (1 : Int32)))]) [2, 0] rfl ?_
  have e9 := Option.some.inj h
  subst e9
  exact hk
set_option maxRecDepth 100000 in
set_option maxHeartbeats 4000000 in
theorem L_X5_sum_37 {Γ : fhX} (hE : fhEok fhYF (fhEn Γ)) (hΓ : fhOk fhYF 5 cX5_sum 3 none Γ) (hd : 2 ≤ fhD Γ) (r : Nat → Int32 → fhM → Option fhM) (hr : ∀ (w : Nat) (a : Int32) (σ σ2 : fhM), r w a σ = some σ2 → fhC fhYF (fhEn Γ) (fhD Γ - 1) (fgMI w) (fgAV w a) σ none σ2) (v1 : Int32)  (σ : fhM) (o : (Int32 × fhM) ⊕ (fhM)) (h : f_X5_sum_37 r v1 σ = some o) (hk : (fhK (fun x => fhW fhYF Γ 6 [(0, .ref 9), (1, .int x.1)] [] x.2) (fun o => fhRet Γ none o)) o) : fhW fhYF Γ 37 [(0, .ref 9), (1, .int v1)] [] σ := by
  unfold f_X5_sum_37 at h
  refine fhW.blk fhPF fhLL hΓ [(.aload_n 0, 0), (.getfield 9, 0), (.bipush 43, 43)] (pc' := 43) (lv' := [(0, .ref 9), (1, .int v1)]) (st' := [.int (43 : Int32), .ref 3]) (σ' := σ) (by decide +kernel) rfl rfl rfl ?_
  refine fhW.callv hΓ mvX8_isSign ml_5_73 (t := 3) (ci := 8) (av := [.int (43 : Int32)]) (rest := []) (r := (some (.int (fhb (f_X8_isSign (43 : Int32) σ))))) (σ' := σ) (T_X8_isSign (E := fhEn Γ) (d := fhD Γ - 1) hE (by omega) (43 : Int32) σ) (by omega) (by decide +kernel) rfl rfl rfl (Nat.le_of_ble_eq_true rfl) rfl ?_
  show fhW fhYF Γ 46 [(0, .ref 9), (1, .int v1)] [.int (fhb (f_X8_isSign (43 : Int32) σ))] σ
  refine fhW.b_eq hΓ (tgt := 53) (show fhbk _ _ (.ifCond .eq (7)) _ = true by decide +kernel) (fun hc => ?_) (fun hc => ?_)
  · simp only [if_neg hc] at h
    refine fhW.blk fhPF fhLL hΓ [(.iconst 5, 5)] (pc' := 54) (lv' := [(0, .ref 9), (1, .int v1)]) (st' := [.int (5 : Int32)]) (σ' := σ) (by decide +kernel) rfl rfl rfl ?_
    refine fhW.sub (lv' := [(0, .ref 9), (1, .int v1)]) [0, 1] rfl ?_
    exact L_X5_sum_54 hE hΓ hd r hr v1 (5 : Int32) σ _ h hk
  · simp only [if_pos hc] at h
    refine fhW.blk fhPF fhLL hΓ [(.iconst 4, 4)] (pc' := 50) (lv' := [(0, .ref 9), (1, .int v1)]) (st' := [.int (4 : Int32)]) (σ' := σ) (by decide +kernel) rfl rfl rfl ?_
    refine fhW.goto hΓ (off := 4) (tgt := 54) (by decide +kernel) ?_
    refine fhW.sub (lv' := [(0, .ref 9), (1, .int v1)]) [0, 1] rfl ?_
    exact L_X5_sum_54 hE hΓ hd r hr v1 (4 : Int32) σ _ h hk
set_option maxRecDepth 100000 in
set_option maxHeartbeats 4000000 in
theorem L_X5_sum_6 {Γ : fhX} (hE : fhEok fhYF (fhEn Γ)) (hΓ : fhOk fhYF 5 cX5_sum 3 none Γ) (hd : 2 ≤ fhD Γ) (r : Nat → Int32 → fhM → Option fhM) (hr : ∀ (w : Nat) (a : Int32) (σ σ2 : fhM), r w a σ = some σ2 → fhC fhYF (fhEn Γ) (fhD Γ - 1) (fgMI w) (fgAV w a) σ none σ2) (v1 : Int32)  (σ : fhM) (o : (Int32 × fhM) ⊕ (fhM)) (h : f_X5_sum_6 r v1 σ = some o) (hk : (fhK (fun x => fhW fhYF Γ 6 [(0, .ref 9), (1, .int x.1)] [] x.2) (fun o => fhRet Γ none o)) o) : fhW fhYF Γ 6 [(0, .ref 9), (1, .int v1)] [] σ := by
  unfold f_X5_sum_6 at h
  refine fhW.blk fhPF fhLL hΓ [(.iload_n 1, 0), (.sipush 1600, 1600)] (pc' := 10) (lv' := [(0, .ref 9), (1, .int v1)]) (st' := [.int (1600 : Int32), .int v1]) (σ' := σ) (by decide +kernel) rfl rfl rfl ?_
  refine fhW.i_ge hΓ (tgt := 81) (show fhbk _ _ (.if_icmp .ge (71)) _ = true by decide +kernel) (fun hc => ?_) (fun hc => ?_)
  · rw [if_pos hc] at h
    have e9 := Option.some.inj h
    subst e9
    exact fhW.vret hΓ (by decide +kernel) hk
  · rw [if_neg hc] at h
    refine fhW.blk fhPF fhLL hΓ [(.aload_n 0, 0), (.getfield 9, 0), (.bipush 43, 43)] (pc' := 19) (lv' := [(0, .ref 9), (1, .int v1)]) (st' := [.int (43 : Int32), .ref 3]) (σ' := σ) (by decide +kernel) rfl rfl rfl ?_
    refine fhW.callv hΓ mvX8_isSign ml_5_73 (t := 3) (ci := 8) (av := [.int (43 : Int32)]) (rest := []) (r := (some (.int (fhb (f_X8_isSign (43 : Int32) σ))))) (σ' := σ) (T_X8_isSign (E := fhEn Γ) (d := fhD Γ - 1) hE (by omega) (43 : Int32) σ) (by omega) (by decide +kernel) rfl rfl rfl (Nat.le_of_ble_eq_true rfl) rfl ?_
    show fhW fhYF Γ 22 [(0, .ref 9), (1, .int v1)] [.int (fhb (f_X8_isSign (43 : Int32) σ))] σ
    refine fhW.b_ne hΓ (tgt := 37) (show fhbk _ _ (.ifCond .ne (15)) _ = true by decide +kernel) (fun hc => ?_) (fun hc => ?_)
    · rw [if_pos hc] at h
      refine fhW.sub (lv' := [(0, .ref 9), (1, .int v1)]) [0, 1] rfl ?_
      exact L_X5_sum_37 hE hΓ hd r hr v1 σ _ h hk
    · rw [if_neg hc] at h
      refine fhW.blk fhPF fhLL hΓ [(.aload_n 0, 0), (.getfield 9, 0), (.bipush 45, 45)] (pc' := 31) (lv' := [(0, .ref 9), (1, .int v1)]) (st' := [.int (45 : Int32), .ref 3]) (σ' := σ) (by decide +kernel) rfl rfl rfl ?_
      refine fhW.callv hΓ mvX8_isSign ml_5_73 (t := 3) (ci := 8) (av := [.int (45 : Int32)]) (rest := []) (r := (some (.int (fhb (f_X8_isSign (45 : Int32) σ))))) (σ' := σ) (T_X8_isSign (E := fhEn Γ) (d := fhD Γ - 1) hE (by omega) (45 : Int32) σ) (by omega) (by decide +kernel) rfl rfl rfl (Nat.le_of_ble_eq_true rfl) rfl ?_
      show fhW fhYF Γ 34 [(0, .ref 9), (1, .int v1)] [.int (fhb (f_X8_isSign (45 : Int32) σ))] σ
      refine fhW.b_eq hΓ (tgt := 81) (show fhbk _ _ (.ifCond .eq (47)) _ = true by decide +kernel) (fun hc => ?_) (fun hc => ?_)
      · rw [if_neg hc] at h
        have e9 := Option.some.inj h
        subst e9
        exact fhW.vret hΓ (by decide +kernel) hk
      · rw [if_pos hc] at h
        refine fhW.sub (lv' := [(0, .ref 9), (1, .int v1)]) [0, 1] rfl ?_
        exact L_X5_sum_37 hE hΓ hd r hr v1 σ _ h hk
set_option maxRecDepth 100000 in
set_option maxHeartbeats 4000000 in
theorem L_X5_sum_E {Γ : fhX} (hE : fhEok fhYF (fhEn Γ)) (hΓ : fhOk fhYF 5 cX5_sum 3 none Γ) (hd : 2 ≤ fhD Γ) (r : Nat → Int32 → fhM → Option fhM) (hr : ∀ (w : Nat) (a : Int32) (σ σ2 : fhM), r w a σ = some σ2 → fhC fhYF (fhEn Γ) (fhD Γ - 1) (fgMI w) (fgAV w a) σ none σ2)   (σ : fhM) (o : fhM) (h : f_X5_sum r σ = some o) (hk : (fun o => fhRet Γ none o) o) : fhW fhYF Γ 0 [(0, .ref 9)] [] σ := by
  unfold f_X5_sum at h
  refine fhW.blk fhPF fhLL hΓ [(.aload_n 0, 0)] (pc' := 1) (lv' := [(0, .ref 9)]) (st' := [.ref 9]) (σ' := σ) (by decide +kernel) rfl rfl rfl ?_
  obtain ⟨q1, hb2, h⟩ := Option.bind_eq_some_iff.mp h
  refine fhW.callv hΓ mvX5_product ml_5_93 (t := 9) (ci := 5) (av := []) (rest := []) (r := none) (σ' := q1) (hr 4 0 σ _ hb2) (by omega) (by decide +kernel) rfl rfl rfl (Nat.le_of_ble_eq_true rfl) rfl ?_
  show fhW fhYF Γ 4 [(0, .ref 9)] [] q1
  refine fhW.blk fhPF fhLL hΓ [(.iconst 0, 0), (.istore_n 1, 0)] (pc' := 6) (lv' := [(1, .int (0 : Int32)), (0, .ref 9)]) (st' := []) (σ' := q1) (by decide +kernel) rfl rfl rfl ?_
  refine fhW.sub (lv' := [(0, .ref 9), (1, .int (0 : Int32))]) [1, 0] rfl ?_
  exact fhlp_ok (W := (fun x => fhW fhYF Γ 6 [(0, .ref 9), (1, .int x.1)] [] x.2)) (B := (fun o => fhRet Γ none o)) (fun x o h hk => L_X5_sum_6 hE hΓ hd r hr x.1 x.2 o h hk) ((0 : Int32), q1) _ h hk
set_option maxRecDepth 100000 in
set_option maxHeartbeats 4000000 in
theorem L_X5_product_56 {Γ : fhX} (hE : fhEok fhYF (fhEn Γ)) (hΓ : fhOk fhYF 5 cX5_product 3 none Γ) (hd : 2 ≤ fhD Γ) (r : Nat → Int32 → fhM → Option fhM) (hr : ∀ (w : Nat) (a : Int32) (σ σ2 : fhM), r w a σ = some σ2 → fhC fhYF (fhEn Γ) (fhD Γ - 1) (fgMI w) (fgAV w a) σ none σ2) (v1 : Int32) (s0 : Int32)  (σ : fhM) (o : (Int32 × fhM) ⊕ (fhM)) (h : f_X5_product_56 r v1 s0 σ = some o) (hk : (fhK (fun x => fhW fhYF Γ 6 [(0, .ref 9), (1, .int x.1)] [] x.2) (fun o => fhRet Γ none o)) o) : fhW fhYF Γ 56 [(0, .ref 9), (1, .int v1)] [.int s0] σ := by
  unfold f_X5_product_56 at h
  refine fhW.blk fhPF fhLL hΓ [(.istore_n 2, 0), (.aload_n 0, 0), (.getfield 9, 0)] (pc' := 61) (lv' := [(2, .int s0), (0, .ref 9), (1, .int v1)]) (st' := [.ref 3]) (σ' := σ) (by decide +kernel) rfl rfl rfl ?_
  refine fhW.callv hΓ mvX8_advance ml_5_29 (t := 3) (ci := 8) (av := []) (rest := []) (r := none) (σ' := (f_X8_advance σ)) (T_X8_advance (E := fhEn Γ) (d := fhD Γ - 1) hE (by omega) σ) (by omega) (by decide +kernel) rfl rfl rfl (Nat.le_of_ble_eq_true rfl) rfl ?_
  show fhW fhYF Γ 64 [(2, .int s0), (0, .ref 9), (1, .int v1)] [] (f_X8_advance σ)
  obtain ⟨q2, e1, h⟩ := fhlet_elim h
  rw [← e1]
  refine fhW.blk fhPF fhLL hΓ [(.aload_n 0, 0)] (pc' := 65) (lv' := [(2, .int s0), (0, .ref 9), (1, .int v1)]) (st' := [.ref 9]) (σ' := q2) (by decide +kernel) rfl rfl rfl ?_
  obtain ⟨q3, hb1, h⟩ := Option.bind_eq_some_iff.mp h
  refine fhW.callv hΓ mvX5_part ml_5_96 (t := 9) (ci := 5) (av := []) (rest := []) (r := none) (σ' := q3) (hr 5 0 q2 _ hb1) (by omega) (by decide +kernel) rfl rfl rfl (Nat.le_of_ble_eq_true rfl) rfl ?_
  show fhW fhYF Γ 68 [(2, .int s0), (0, .ref 9), (1, .int v1)] [] q3
  refine fhW.blk fhPF fhLL hΓ [(.aload_n 0, 0), (.getfield 15, 0), (.iload_n 2, 0), (.iconst 0, 0)] (pc' := 74) (lv' := [(2, .int s0), (0, .ref 9), (1, .int v1)]) (st' := [.int (0 : Int32), .int s0, .ref (q3.2.2 9 1)]) (σ' := q3) (by decide +kernel) rfl rfl rfl ?_
  obtain ⟨hy1, h⟩ := fhif h
  refine fhW.callv hΓ mvX3_add ml_5_64 (t := (q3.2.2 9 1)) (ci := 3) (av := [.int s0, .int (0 : Int32)]) (rest := []) (r := none) (σ' := (f_X3_add (q3.2.2 9 1) s0 (0 : Int32) q3)) (T_X3_add (E := fhEn Γ) (d := fhD Γ - 1) hE (by omega) (q3.2.2 9 1) s0 (0 : Int32) hy1 q3) (by omega) (by decide +kernel) rfl (fhiK_g hy1) rfl (Nat.le_of_ble_eq_true rfl) rfl ?_
  show fhW fhYF Γ 77 [(2, .int s0), (0, .ref 9), (1, .int v1)] [] (f_X3_add (q3.2.2 9 1) s0 (0 : Int32) q3)
  obtain ⟨q4, e2, h⟩ := fhlet_elim h
  rw [← e2]
  refine fhW.blk fhPF fhLL hΓ [(.iinc 1 1, 1)] (pc' := 80) (lv' := [(1, .int (v1 + (1 : Int32))), (2, .int s0), (0, .ref 9)]) (st' := []) (σ' := q4) (by decide +kernel) rfl rfl rfl ?_
  refine fhW.goto hΓ (off := (-74)) (tgt := 6) (by decide +kernel) ?_
  refine fhW.sub (lv' := [(0, .ref 9), (1, .int (v1 + (1 : Int32)))]) [2, 0] rfl ?_
  have e9 := Option.some.inj h
  subst e9
  exact hk
set_option maxRecDepth 100000 in
set_option maxHeartbeats 4000000 in
theorem L_X5_product_37 {Γ : fhX} (hE : fhEok fhYF (fhEn Γ)) (hΓ : fhOk fhYF 5 cX5_product 3 none Γ) (hd : 2 ≤ fhD Γ) (r : Nat → Int32 → fhM → Option fhM) (hr : ∀ (w : Nat) (a : Int32) (σ σ2 : fhM), r w a σ = some σ2 → fhC fhYF (fhEn Γ) (fhD Γ - 1) (fgMI w) (fgAV w a) σ none σ2) (v1 : Int32)  (σ : fhM) (o : (Int32 × fhM) ⊕ (fhM)) (h : f_X5_product_37 r v1 σ = some o) (hk : (fhK (fun x => fhW fhYF Γ 6 [(0, .ref 9), (1, .int x.1)] [] x.2) (fun o => fhRet Γ none o)) o) : fhW fhYF Γ 37 [(0, .ref 9), (1, .int v1)] [] σ := by
  unfold f_X5_product_37 at h
  refine fhW.blk fhPF fhLL hΓ [(.aload_n 0, 0), (.getfield 9, 0), (.bipush 42, 42)] (pc' := 43) (lv' := [(0, .ref 9), (1, .int v1)]) (st' := [.int (42 : Int32), .ref 3]) (σ' := σ) (by decide +kernel) rfl rfl rfl ?_
  refine fhW.callv hΓ mvX8_isSign ml_5_73 (t := 3) (ci := 8) (av := [.int (42 : Int32)]) (rest := []) (r := (some (.int (fhb (f_X8_isSign (42 : Int32) σ))))) (σ' := σ) (T_X8_isSign (E := fhEn Γ) (d := fhD Γ - 1) hE (by omega) (42 : Int32) σ) (by omega) (by decide +kernel) rfl rfl rfl (Nat.le_of_ble_eq_true rfl) rfl ?_
  show fhW fhYF Γ 46 [(0, .ref 9), (1, .int v1)] [.int (fhb (f_X8_isSign (42 : Int32) σ))] σ
  refine fhW.b_eq hΓ (tgt := 54) (show fhbk _ _ (.ifCond .eq (8)) _ = true by decide +kernel) (fun hc => ?_) (fun hc => ?_)
  · simp only [if_neg hc] at h
    refine fhW.blk fhPF fhLL hΓ [(.bipush 7, 7)] (pc' := 56) (lv' := [(0, .ref 9), (1, .int v1)]) (st' := [.int (7 : Int32)]) (σ' := σ) (by decide +kernel) rfl rfl rfl ?_
    refine fhW.sub (lv' := [(0, .ref 9), (1, .int v1)]) [0, 1] rfl ?_
    exact L_X5_product_56 hE hΓ hd r hr v1 (7 : Int32) σ _ h hk
  · simp only [if_pos hc] at h
    refine fhW.blk fhPF fhLL hΓ [(.bipush 6, 6)] (pc' := 51) (lv' := [(0, .ref 9), (1, .int v1)]) (st' := [.int (6 : Int32)]) (σ' := σ) (by decide +kernel) rfl rfl rfl ?_
    refine fhW.goto hΓ (off := 5) (tgt := 56) (by decide +kernel) ?_
    refine fhW.sub (lv' := [(0, .ref 9), (1, .int v1)]) [0, 1] rfl ?_
    exact L_X5_product_56 hE hΓ hd r hr v1 (6 : Int32) σ _ h hk
set_option maxRecDepth 100000 in
set_option maxHeartbeats 4000000 in
theorem L_X5_product_6 {Γ : fhX} (hE : fhEok fhYF (fhEn Γ)) (hΓ : fhOk fhYF 5 cX5_product 3 none Γ) (hd : 2 ≤ fhD Γ) (r : Nat → Int32 → fhM → Option fhM) (hr : ∀ (w : Nat) (a : Int32) (σ σ2 : fhM), r w a σ = some σ2 → fhC fhYF (fhEn Γ) (fhD Γ - 1) (fgMI w) (fgAV w a) σ none σ2) (v1 : Int32)  (σ : fhM) (o : (Int32 × fhM) ⊕ (fhM)) (h : f_X5_product_6 r v1 σ = some o) (hk : (fhK (fun x => fhW fhYF Γ 6 [(0, .ref 9), (1, .int x.1)] [] x.2) (fun o => fhRet Γ none o)) o) : fhW fhYF Γ 6 [(0, .ref 9), (1, .int v1)] [] σ := by
  unfold f_X5_product_6 at h
  refine fhW.blk fhPF fhLL hΓ [(.iload_n 1, 0), (.sipush 1600, 1600)] (pc' := 10) (lv' := [(0, .ref 9), (1, .int v1)]) (st' := [.int (1600 : Int32), .int v1]) (σ' := σ) (by decide +kernel) rfl rfl rfl ?_
  refine fhW.i_ge hΓ (tgt := 83) (show fhbk _ _ (.if_icmp .ge (73)) _ = true by decide +kernel) (fun hc => ?_) (fun hc => ?_)
  · rw [if_pos hc] at h
    have e9 := Option.some.inj h
    subst e9
    exact fhW.vret hΓ (by decide +kernel) hk
  · rw [if_neg hc] at h
    refine fhW.blk fhPF fhLL hΓ [(.aload_n 0, 0), (.getfield 9, 0), (.bipush 42, 42)] (pc' := 19) (lv' := [(0, .ref 9), (1, .int v1)]) (st' := [.int (42 : Int32), .ref 3]) (σ' := σ) (by decide +kernel) rfl rfl rfl ?_
    refine fhW.callv hΓ mvX8_isSign ml_5_73 (t := 3) (ci := 8) (av := [.int (42 : Int32)]) (rest := []) (r := (some (.int (fhb (f_X8_isSign (42 : Int32) σ))))) (σ' := σ) (T_X8_isSign (E := fhEn Γ) (d := fhD Γ - 1) hE (by omega) (42 : Int32) σ) (by omega) (by decide +kernel) rfl rfl rfl (Nat.le_of_ble_eq_true rfl) rfl ?_
    show fhW fhYF Γ 22 [(0, .ref 9), (1, .int v1)] [.int (fhb (f_X8_isSign (42 : Int32) σ))] σ
    refine fhW.b_ne hΓ (tgt := 37) (show fhbk _ _ (.ifCond .ne (15)) _ = true by decide +kernel) (fun hc => ?_) (fun hc => ?_)
    · rw [if_pos hc] at h
      refine fhW.sub (lv' := [(0, .ref 9), (1, .int v1)]) [0, 1] rfl ?_
      exact L_X5_product_37 hE hΓ hd r hr v1 σ _ h hk
    · rw [if_neg hc] at h
      refine fhW.blk fhPF fhLL hΓ [(.aload_n 0, 0), (.getfield 9, 0), (.bipush 47, 47)] (pc' := 31) (lv' := [(0, .ref 9), (1, .int v1)]) (st' := [.int (47 : Int32), .ref 3]) (σ' := σ) (by decide +kernel) rfl rfl rfl ?_
      refine fhW.callv hΓ mvX8_isSign ml_5_73 (t := 3) (ci := 8) (av := [.int (47 : Int32)]) (rest := []) (r := (some (.int (fhb (f_X8_isSign (47 : Int32) σ))))) (σ' := σ) (T_X8_isSign (E := fhEn Γ) (d := fhD Γ - 1) hE (by omega) (47 : Int32) σ) (by omega) (by decide +kernel) rfl rfl rfl (Nat.le_of_ble_eq_true rfl) rfl ?_
      show fhW fhYF Γ 34 [(0, .ref 9), (1, .int v1)] [.int (fhb (f_X8_isSign (47 : Int32) σ))] σ
      refine fhW.b_eq hΓ (tgt := 83) (show fhbk _ _ (.ifCond .eq (49)) _ = true by decide +kernel) (fun hc => ?_) (fun hc => ?_)
      · rw [if_neg hc] at h
        have e9 := Option.some.inj h
        subst e9
        exact fhW.vret hΓ (by decide +kernel) hk
      · rw [if_pos hc] at h
        refine fhW.sub (lv' := [(0, .ref 9), (1, .int v1)]) [0, 1] rfl ?_
        exact L_X5_product_37 hE hΓ hd r hr v1 σ _ h hk
set_option maxRecDepth 100000 in
set_option maxHeartbeats 4000000 in
theorem L_X5_product_E {Γ : fhX} (hE : fhEok fhYF (fhEn Γ)) (hΓ : fhOk fhYF 5 cX5_product 3 none Γ) (hd : 2 ≤ fhD Γ) (r : Nat → Int32 → fhM → Option fhM) (hr : ∀ (w : Nat) (a : Int32) (σ σ2 : fhM), r w a σ = some σ2 → fhC fhYF (fhEn Γ) (fhD Γ - 1) (fgMI w) (fgAV w a) σ none σ2)   (σ : fhM) (o : fhM) (h : f_X5_product r σ = some o) (hk : (fun o => fhRet Γ none o) o) : fhW fhYF Γ 0 [(0, .ref 9)] [] σ := by
  unfold f_X5_product at h
  refine fhW.blk fhPF fhLL hΓ [(.aload_n 0, 0)] (pc' := 1) (lv' := [(0, .ref 9)]) (st' := [.ref 9]) (σ' := σ) (by decide +kernel) rfl rfl rfl ?_
  obtain ⟨q1, hb2, h⟩ := Option.bind_eq_some_iff.mp h
  refine fhW.callv hΓ mvX5_part ml_5_96 (t := 9) (ci := 5) (av := []) (rest := []) (r := none) (σ' := q1) (hr 5 0 σ _ hb2) (by omega) (by decide +kernel) rfl rfl rfl (Nat.le_of_ble_eq_true rfl) rfl ?_
  show fhW fhYF Γ 4 [(0, .ref 9)] [] q1
  refine fhW.blk fhPF fhLL hΓ [(.iconst 0, 0), (.istore_n 1, 0)] (pc' := 6) (lv' := [(1, .int (0 : Int32)), (0, .ref 9)]) (st' := []) (σ' := q1) (by decide +kernel) rfl rfl rfl ?_
  refine fhW.sub (lv' := [(0, .ref 9), (1, .int (0 : Int32))]) [1, 0] rfl ?_
  exact fhlp_ok (W := (fun x => fhW fhYF Γ 6 [(0, .ref 9), (1, .int x.1)] [] x.2)) (B := (fun o => fhRet Γ none o)) (fun x o h hk => L_X5_product_6 hE hΓ hd r hr x.1 x.2 o h hk) ((0 : Int32), q1) _ h hk
set_option maxRecDepth 100000 in
set_option maxHeartbeats 4000000 in
theorem L_X5_part_117 {Γ : fhX} (hE : fhEok fhYF (fhEn Γ)) (hΓ : fhOk fhYF 5 cX5_part 1 none Γ) (hd : 3 ≤ fhD Γ) (r : Nat → Int32 → fhM → Option fhM) (hr : ∀ (w : Nat) (a : Int32) (σ σ2 : fhM), r w a σ = some σ2 → fhC fhYF (fhEn Γ) (fhD Γ - 1) (fgMI w) (fgAV w a) σ none σ2) (s0 : Int32)  (σ : fhM) (o : fhM) (h : f_X5_part_117 r s0 σ = some o) (hk : (fun o => fhRet Γ none o) o) : fhW fhYF Γ 117 [] [.int s0, .ref 9] σ := by
  unfold f_X5_part_117 at h
  obtain ⟨q8, hb1, h⟩ := Option.bind_eq_some_iff.mp h
  refine fhW.callv hΓ mvX5_pair ml_5_105 (t := 9) (ci := 5) (av := [.int s0]) (rest := []) (r := none) (σ' := q8) (hr 6 s0 σ _ hb1) (by omega) (by decide +kernel) rfl rfl rfl (Nat.le_of_ble_eq_true rfl) rfl ?_
  show fhW fhYF Γ 120 [] [] q8
  refine fhW.goto hΓ (off := 21) (tgt := 141) (by decide +kernel) ?_
  have e9 := Option.some.inj h
  subst e9
  exact fhW.vret hΓ (by decide +kernel) hk
set_option maxRecDepth 100000 in
set_option maxHeartbeats 4000000 in
theorem L_X5_part_97 {Γ : fhX} (hE : fhEok fhYF (fhEn Γ)) (hΓ : fhOk fhYF 5 cX5_part 1 none Γ) (hd : 3 ≤ fhD Γ) (r : Nat → Int32 → fhM → Option fhM) (hr : ∀ (w : Nat) (a : Int32) (σ σ2 : fhM), r w a σ = some σ2 → fhC fhYF (fhEn Γ) (fhD Γ - 1) (fgMI w) (fgAV w a) σ none σ2)   (σ : fhM) (o : fhM) (h : f_X5_part_97 r σ = some o) (hk : (fun o => fhRet Γ none o) o) : fhW fhYF Γ 97 [(0, .ref 9)] [] σ := by
  unfold f_X5_part_97 at h
  refine fhW.blk fhPF fhLL hΓ [(.aload_n 0, 0), (.aload_n 0, 0), (.getfield 9, 0), (.bipush 24, 24)] (pc' := 104) (lv' := [(0, .ref 9)]) (st' := [.int (24 : Int32), .ref 3, .ref 9]) (σ' := σ) (by decide +kernel) rfl rfl rfl ?_
  refine fhW.callv hΓ mvX8_isWord ml_5_60 (t := 3) (ci := 8) (av := [.int (24 : Int32)]) (rest := [.ref 9]) (r := (some (.int (fhb (f_X8_isWord (24 : Int32) σ))))) (σ' := σ) (T_X8_isWord (E := fhEn Γ) (d := fhD Γ - 1) hE (by omega) (24 : Int32) σ) (by omega) (by decide +kernel) rfl rfl rfl (Nat.le_of_ble_eq_true rfl) rfl ?_
  show fhW fhYF Γ 107 [(0, .ref 9)] [.int (fhb (f_X8_isWord (24 : Int32) σ)), .ref 9] σ
  refine fhW.b_eq hΓ (tgt := 115) (show fhbk _ _ (.ifCond .eq (8)) _ = true by decide +kernel) (fun hc => ?_) (fun hc => ?_)
  · simp only [if_neg hc] at h
    refine fhW.blk fhPF fhLL hΓ [(.bipush 9, 9)] (pc' := 117) (lv' := [(0, .ref 9)]) (st' := [.int (9 : Int32), .ref 9]) (σ' := σ) (by decide +kernel) rfl rfl rfl ?_
    refine fhW.sub (lv' := []) [] rfl ?_
    exact L_X5_part_117 hE hΓ hd r hr (9 : Int32) σ _ h hk
  · simp only [if_pos hc] at h
    refine fhW.blk fhPF fhLL hΓ [(.bipush 8, 8)] (pc' := 112) (lv' := [(0, .ref 9)]) (st' := [.int (8 : Int32), .ref 9]) (σ' := σ) (by decide +kernel) rfl rfl rfl ?_
    refine fhW.goto hΓ (off := 5) (tgt := 117) (by decide +kernel) ?_
    refine fhW.sub (lv' := []) [] rfl ?_
    exact L_X5_part_117 hE hΓ hd r hr (8 : Int32) σ _ h hk
set_option maxRecDepth 100000 in
set_option maxHeartbeats 4000000 in
theorem L_X5_part_E {Γ : fhX} (hE : fhEok fhYF (fhEn Γ)) (hΓ : fhOk fhYF 5 cX5_part 1 none Γ) (hd : 3 ≤ fhD Γ) (r : Nat → Int32 → fhM → Option fhM) (hr : ∀ (w : Nat) (a : Int32) (σ σ2 : fhM), r w a σ = some σ2 → fhC fhYF (fhEn Γ) (fhD Γ - 1) (fgMI w) (fgAV w a) σ none σ2)   (σ : fhM) (o : fhM) (h : f_X5_part r σ = some o) (hk : (fun o => fhRet Γ none o) o) : fhW fhYF Γ 0 [(0, .ref 9)] [] σ := by
  unfold f_X5_part at h
  refine fhW.blk fhPF fhLL hΓ [(.aload_n 0, 0), (.getfield 9, 0)] (pc' := 4) (lv' := [(0, .ref 9)]) (st' := [.ref 3]) (σ' := σ) (by decide +kernel) rfl rfl rfl ?_
  refine fhW.callv hΓ mvX8_isNumber ml_5_99 (t := 3) (ci := 8) (av := []) (rest := []) (r := (some (.int (fhb (f_X8_isNumber σ))))) (σ' := σ) (T_X8_isNumber (E := fhEn Γ) (d := fhD Γ - 1) hE (by omega) σ) (by omega) (by decide +kernel) rfl rfl rfl (Nat.le_of_ble_eq_true rfl) rfl ?_
  show fhW fhYF Γ 7 [(0, .ref 9)] [.int (fhb (f_X8_isNumber σ))] σ
  refine fhW.b_eq hΓ (tgt := 28) (show fhbk _ _ (.ifCond .eq (21)) _ = true by decide +kernel) (fun hc => ?_) (fun hc => ?_)
  · rw [if_neg hc] at h
    refine fhW.blk fhPF fhLL hΓ [(.aload_n 0, 0), (.getfield 9, 0), (.bipush 40, 40)] (pc' := 34) (lv' := [(0, .ref 9)]) (st' := [.int (40 : Int32), .ref 3]) (σ' := σ) (by decide +kernel) rfl rfl rfl ?_
    refine fhW.callv hΓ mvX8_isSign ml_5_73 (t := 3) (ci := 8) (av := [.int (40 : Int32)]) (rest := []) (r := (some (.int (fhb (f_X8_isSign (40 : Int32) σ))))) (σ' := σ) (T_X8_isSign (E := fhEn Γ) (d := fhD Γ - 1) hE (by omega) (40 : Int32) σ) (by omega) (by decide +kernel) rfl rfl rfl (Nat.le_of_ble_eq_true rfl) rfl ?_
    show fhW fhYF Γ 37 [(0, .ref 9)] [.int (fhb (f_X8_isSign (40 : Int32) σ))] σ
    refine fhW.b_eq hΓ (tgt := 73) (show fhbk _ _ (.ifCond .eq (36)) _ = true by decide +kernel) (fun hc => ?_) (fun hc => ?_)
    · rw [if_neg hc] at h
      refine fhW.blk fhPF fhLL hΓ [(.aload_n 0, 0), (.getfield 9, 0), (.bipush 24, 24)] (pc' := 79) (lv' := [(0, .ref 9)]) (st' := [.int (24 : Int32), .ref 3]) (σ' := σ) (by decide +kernel) rfl rfl rfl ?_
      refine fhW.callv hΓ mvX8_isWord ml_5_60 (t := 3) (ci := 8) (av := [.int (24 : Int32)]) (rest := []) (r := (some (.int (fhb (f_X8_isWord (24 : Int32) σ))))) (σ' := σ) (T_X8_isWord (E := fhEn Γ) (d := fhD Γ - 1) hE (by omega) (24 : Int32) σ) (by omega) (by decide +kernel) rfl rfl rfl (Nat.le_of_ble_eq_true rfl) rfl ?_
      show fhW fhYF Γ 82 [(0, .ref 9)] [.int (fhb (f_X8_isWord (24 : Int32) σ))] σ
      refine fhW.b_ne hΓ (tgt := 97) (show fhbk _ _ (.ifCond .ne (15)) _ = true by decide +kernel) (fun hc => ?_) (fun hc => ?_)
      · rw [if_pos hc] at h
        refine fhW.sub (lv' := [(0, .ref 9)]) [0] rfl ?_
        exact L_X5_part_97 hE hΓ hd r hr σ _ h hk
      · rw [if_neg hc] at h
        refine fhW.blk fhPF fhLL hΓ [(.aload_n 0, 0), (.getfield 9, 0), (.bipush 25, 25)] (pc' := 91) (lv' := [(0, .ref 9)]) (st' := [.int (25 : Int32), .ref 3]) (σ' := σ) (by decide +kernel) rfl rfl rfl ?_
        refine fhW.callv hΓ mvX8_isWord ml_5_60 (t := 3) (ci := 8) (av := [.int (25 : Int32)]) (rest := []) (r := (some (.int (fhb (f_X8_isWord (25 : Int32) σ))))) (σ' := σ) (T_X8_isWord (E := fhEn Γ) (d := fhD Γ - 1) hE (by omega) (25 : Int32) σ) (by omega) (by decide +kernel) rfl rfl rfl (Nat.le_of_ble_eq_true rfl) rfl ?_
        show fhW fhYF Γ 94 [(0, .ref 9)] [.int (fhb (f_X8_isWord (25 : Int32) σ))] σ
        refine fhW.b_eq hΓ (tgt := 123) (show fhbk _ _ (.ifCond .eq (29)) _ = true by decide +kernel) (fun hc => ?_) (fun hc => ?_)
        · rw [if_neg hc] at h
          refine fhW.blk fhPF fhLL hΓ [(.aload_n 0, 0)] (pc' := 124) (lv' := [(0, .ref 9)]) (st' := [.ref 9]) (σ' := σ) (by decide +kernel) rfl rfl rfl ?_
          refine fhW.callv hΓ mvX5_isLookingWord ml_5_109 (t := 9) (ci := 5) (av := []) (rest := []) (r := (some (.int (fhb (f_X5_isLookingWord σ))))) (σ' := σ) (T_X5_isLookingWord (E := fhEn Γ) (d := fhD Γ - 1) hE (by omega) σ) (by omega) (by decide +kernel) rfl rfl rfl (Nat.le_of_ble_eq_true rfl) rfl ?_
          show fhW fhYF Γ 127 [(0, .ref 9)] [.int (fhb (f_X5_isLookingWord σ))] σ
          refine fhW.b_eq hΓ (tgt := 137) (show fhbk _ _ (.ifCond .eq (10)) _ = true by decide +kernel) (fun hc => ?_) (fun hc => ?_)
          · rw [if_neg hc] at h
            refine fhW.blk fhPF fhLL hΓ [(.aload_n 0, 0)] (pc' := 138) (lv' := [(0, .ref 9)]) (st' := [.ref 9]) (σ' := σ) (by decide +kernel) rfl rfl rfl ?_
            obtain ⟨q1, hb2, h⟩ := Option.bind_eq_some_iff.mp h
            refine fhW.callv hΓ mvX5_leaf ml_5_115 (t := 9) (ci := 5) (av := []) (rest := []) (r := none) (σ' := q1) (T_X5_leaf (E := fhEn Γ) (d := fhD Γ - 1) hE (by omega) σ hb2) (by omega) (by decide +kernel) rfl rfl rfl (Nat.le_of_ble_eq_true rfl) rfl ?_
            show fhW fhYF Γ 141 [(0, .ref 9)] [] q1
            have e9 := Option.some.inj h
            subst e9
            exact fhW.vret hΓ (by decide +kernel) hk
          · rw [if_pos hc] at h
            refine fhW.blk fhPF fhLL hΓ [(.aload_n 0, 0)] (pc' := 131) (lv' := [(0, .ref 9)]) (st' := [.ref 9]) (σ' := σ) (by decide +kernel) rfl rfl rfl ?_
            obtain ⟨q2, hb3, h⟩ := Option.bind_eq_some_iff.mp h
            refine fhW.callv hΓ mvX5_lookup ml_5_112 (t := 9) (ci := 5) (av := []) (rest := []) (r := none) (σ' := q2) (hr 7 0 σ _ hb3) (by omega) (by decide +kernel) rfl rfl rfl (Nat.le_of_ble_eq_true rfl) rfl ?_
            show fhW fhYF Γ 134 [(0, .ref 9)] [] q2
            refine fhW.goto hΓ (off := 7) (tgt := 141) (by decide +kernel) ?_
            have e9 := Option.some.inj h
            subst e9
            exact fhW.vret hΓ (by decide +kernel) hk
        · rw [if_pos hc] at h
          refine fhW.sub (lv' := [(0, .ref 9)]) [0] rfl ?_
          exact L_X5_part_97 hE hΓ hd r hr σ _ h hk
    · rw [if_pos hc] at h
      refine fhW.blk fhPF fhLL hΓ [(.aload_n 0, 0)] (pc' := 41) (lv' := [(0, .ref 9)]) (st' := [.ref 9]) (σ' := σ) (by decide +kernel) rfl rfl rfl ?_
      refine fhW.callv hΓ mvX5_goDeeper ml_5_77 (t := 9) (ci := 5) (av := []) (rest := []) (r := (some (.int (fhb (f_X5_goDeeper σ).1)))) (σ' := (f_X5_goDeeper σ).2) (T_X5_goDeeper (E := fhEn Γ) (d := fhD Γ - 1) hE (by omega) σ) (by omega) (by decide +kernel) rfl rfl rfl (Nat.le_of_ble_eq_true rfl) rfl ?_
      show fhW fhYF Γ 44 [(0, .ref 9)] [.int (fhb (f_X5_goDeeper σ).1)] (f_X5_goDeeper σ).2
      obtain ⟨q3, e1, h⟩ := fhlet_elim h
      rw [← e1]
      refine fhW.b_eq hΓ (tgt := 141) (show fhbk _ _ (.ifCond .eq (97)) _ = true by decide +kernel) (fun hc => ?_) (fun hc => ?_)
      · rw [if_neg hc] at h
        have e9 := Option.some.inj h
        subst e9
        exact fhW.vret hΓ (by decide +kernel) hk
      · rw [if_pos hc] at h
        refine fhW.blk fhPF fhLL hΓ [(.aload_n 0, 0)] (pc' := 48) (lv' := [(0, .ref 9)]) (st' := [.ref 9]) (σ' := q3.2) (by decide +kernel) rfl rfl rfl ?_
        obtain ⟨q4, hb4, h⟩ := Option.bind_eq_some_iff.mp h
        refine fhW.callv hΓ mvX5_sum ml_5_35 (t := 9) (ci := 5) (av := []) (rest := []) (r := none) (σ' := q4) (hr 3 0 q3.2 _ hb4) (by omega) (by decide +kernel) rfl rfl rfl (Nat.le_of_ble_eq_true rfl) rfl ?_
        show fhW fhYF Γ 51 [(0, .ref 9)] [] q4
        refine fhW.blk fhPF fhLL hΓ [(.aload_n 0, 0), (.getfield 9, 0), (.bipush 41, 41)] (pc' := 57) (lv' := [(0, .ref 9)]) (st' := [.int (41 : Int32), .ref 3]) (σ' := q4) (by decide +kernel) rfl rfl rfl ?_
        refine fhW.callv hΓ mvX8_takeSign ml_5_80 (t := 3) (ci := 8) (av := [.int (41 : Int32)]) (rest := []) (r := none) (σ' := (f_X8_takeSign (41 : Int32) q4)) (T_X8_takeSign (E := fhEn Γ) (d := fhD Γ - 1) hE (by omega) (41 : Int32) q4) (by omega) (by decide +kernel) rfl rfl rfl (Nat.le_of_ble_eq_true rfl) rfl ?_
        show fhW fhYF Γ 60 [(0, .ref 9)] [] (f_X8_takeSign (41 : Int32) q4)
        obtain ⟨q5, e2, h⟩ := fhlet_elim h
        rw [← e2]
        refine fhW.blk fhPF fhLL hΓ [(.aload_n 0, 0), (.dup, 0), (.getfield 53, 0), (.iconst 1, 1), (.isub, 0), (.putfield 53, 0)] (pc' := 70) (lv' := [(0, .ref 9)]) (st' := []) (σ' := (fhI q5 9 4 ((q5.1 9 4) - (1 : Int32)))) (by decide +kernel) rfl rfl rfl ?_
        refine fhW.goto hΓ (off := 71) (tgt := 141) (by decide +kernel) ?_
        have e9 := Option.some.inj h
        subst e9
        exact fhW.vret hΓ (by decide +kernel) hk
  · rw [if_pos hc] at h
    refine fhW.blk fhPF fhLL hΓ [(.aload_n 0, 0), (.getfield 15, 0), (.iconst 0, 0), (.aload_n 0, 0), (.getfield 9, 0)] (pc' := 19) (lv' := [(0, .ref 9)]) (st' := [.ref 3, .int (0 : Int32), .ref (σ.2.2 9 1)]) (σ' := σ) (by decide +kernel) rfl rfl rfl ?_
    refine fhW.callv hΓ mvX8_takeNumber ml_5_102 (t := 3) (ci := 8) (av := []) (rest := [.int (0 : Int32), .ref (σ.2.2 9 1)]) (r := (some (.int (f_X8_takeNumber σ).1))) (σ' := (f_X8_takeNumber σ).2) (T_X8_takeNumber (E := fhEn Γ) (d := fhD Γ - 1) hE (by omega) σ) (by omega) (by decide +kernel) rfl rfl rfl (Nat.le_of_ble_eq_true rfl) rfl ?_
    show fhW fhYF Γ 22 [(0, .ref 9)] [.int (f_X8_takeNumber σ).1, .int (0 : Int32), .ref (σ.2.2 9 1)] (f_X8_takeNumber σ).2
    obtain ⟨q6, e3, h⟩ := fhlet_elim h
    rw [← e3]
    obtain ⟨hy1, h⟩ := fhif h
    refine fhW.callv hΓ mvX3_add ml_5_64 (t := (σ.2.2 9 1)) (ci := 3) (av := [.int (0 : Int32), .int q6.1]) (rest := []) (r := none) (σ' := (f_X3_add (σ.2.2 9 1) (0 : Int32) q6.1 q6.2)) (T_X3_add (E := fhEn Γ) (d := fhD Γ - 1) hE (by omega) (σ.2.2 9 1) (0 : Int32) q6.1 hy1 q6.2) (by omega) (by decide +kernel) rfl (fhiK_g hy1) rfl (Nat.le_of_ble_eq_true rfl) rfl ?_
    show fhW fhYF Γ 25 [(0, .ref 9)] [] (f_X3_add (σ.2.2 9 1) (0 : Int32) q6.1 q6.2)
    obtain ⟨q7, e4, h⟩ := fhlet_elim h
    rw [← e4]
    refine fhW.goto hΓ (off := 116) (tgt := 141) (by decide +kernel) ?_
    have e9 := Option.some.inj h
    subst e9
    exact fhW.vret hΓ (by decide +kernel) hk
set_option maxRecDepth 100000 in
set_option maxHeartbeats 4000000 in
theorem L_X5_pair_E {Γ : fhX} (hE : fhEok fhYF (fhEn Γ)) (hΓ : fhOk fhYF 5 cX5_pair 2 none Γ) (hd : 3 ≤ fhD Γ) (r : Nat → Int32 → fhM → Option fhM) (hr : ∀ (w : Nat) (a : Int32) (σ σ2 : fhM), r w a σ = some σ2 → fhC fhYF (fhEn Γ) (fhD Γ - 1) (fgMI w) (fgAV w a) σ none σ2) (v1 : Int32)  (σ : fhM) (o : fhM) (h : f_X5_pair r v1 σ = some o) (hk : (fun o => fhRet Γ none o) o) : fhW fhYF Γ 0 [(0, .ref 9), (1, .int v1)] [] σ := by
  unfold f_X5_pair at h
  refine fhW.blk fhPF fhLL hΓ [(.aload_n 0, 0), (.getfield 9, 0)] (pc' := 4) (lv' := [(0, .ref 9), (1, .int v1)]) (st' := [.ref 3]) (σ' := σ) (by decide +kernel) rfl rfl rfl ?_
  refine fhW.callv hΓ mvX8_advance ml_5_29 (t := 3) (ci := 8) (av := []) (rest := []) (r := none) (σ' := (f_X8_advance σ)) (T_X8_advance (E := fhEn Γ) (d := fhD Γ - 1) hE (by omega) σ) (by omega) (by decide +kernel) rfl rfl rfl (Nat.le_of_ble_eq_true rfl) rfl ?_
  show fhW fhYF Γ 7 [(0, .ref 9), (1, .int v1)] [] (f_X8_advance σ)
  obtain ⟨q1, e1, h⟩ := fhlet_elim h
  rw [← e1]
  refine fhW.blk fhPF fhLL hΓ [(.aload_n 0, 0), (.getfield 9, 0), (.bipush 40, 40)] (pc' := 13) (lv' := [(0, .ref 9), (1, .int v1)]) (st' := [.int (40 : Int32), .ref 3]) (σ' := q1) (by decide +kernel) rfl rfl rfl ?_
  refine fhW.callv hΓ mvX8_isSign ml_5_73 (t := 3) (ci := 8) (av := [.int (40 : Int32)]) (rest := []) (r := (some (.int (fhb (f_X8_isSign (40 : Int32) q1))))) (σ' := q1) (T_X8_isSign (E := fhEn Γ) (d := fhD Γ - 1) hE (by omega) (40 : Int32) q1) (by omega) (by decide +kernel) rfl rfl rfl (Nat.le_of_ble_eq_true rfl) rfl ?_
  show fhW fhYF Γ 16 [(0, .ref 9), (1, .int v1)] [.int (fhb (f_X8_isSign (40 : Int32) q1))] q1
  refine fhW.b_ne hΓ (tgt := 29) (show fhbk _ _ (.ifCond .ne (13)) _ = true by decide +kernel) (fun hc => ?_) (fun hc => ?_)
  · rw [if_pos hc] at h
    refine fhW.blk fhPF fhLL hΓ [(.aload_n 0, 0)] (pc' := 30) (lv' := [(0, .ref 9), (1, .int v1)]) (st' := [.ref 9]) (σ' := q1) (by decide +kernel) rfl rfl rfl ?_
    refine fhW.callv hΓ mvX5_goDeeper ml_5_77 (t := 9) (ci := 5) (av := []) (rest := []) (r := (some (.int (fhb (f_X5_goDeeper q1).1)))) (σ' := (f_X5_goDeeper q1).2) (T_X5_goDeeper (E := fhEn Γ) (d := fhD Γ - 1) hE (by omega) q1) (by omega) (by decide +kernel) rfl rfl rfl (Nat.le_of_ble_eq_true rfl) rfl ?_
    show fhW fhYF Γ 33 [(0, .ref 9), (1, .int v1)] [.int (fhb (f_X5_goDeeper q1).1)] (f_X5_goDeeper q1).2
    obtain ⟨q2, e2, h⟩ := fhlet_elim h
    rw [← e2]
    refine fhW.b_eq hΓ (tgt := 81) (show fhbk _ _ (.ifCond .eq (48)) _ = true by decide +kernel) (fun hc => ?_) (fun hc => ?_)
    · rw [if_neg hc] at h
      have e9 := Option.some.inj h
      subst e9
      exact fhW.vret hΓ (by decide +kernel) hk
    · rw [if_pos hc] at h
      refine fhW.blk fhPF fhLL hΓ [(.aload_n 0, 0)] (pc' := 37) (lv' := [(0, .ref 9), (1, .int v1)]) (st' := [.ref 9]) (σ' := q2.2) (by decide +kernel) rfl rfl rfl ?_
      obtain ⟨q3, hb1, h⟩ := Option.bind_eq_some_iff.mp h
      refine fhW.callv hΓ mvX5_sum ml_5_35 (t := 9) (ci := 5) (av := []) (rest := []) (r := none) (σ' := q3) (hr 3 0 q2.2 _ hb1) (by omega) (by decide +kernel) rfl rfl rfl (Nat.le_of_ble_eq_true rfl) rfl ?_
      show fhW fhYF Γ 40 [(0, .ref 9), (1, .int v1)] [] q3
      refine fhW.blk fhPF fhLL hΓ [(.aload_n 0, 0), (.getfield 9, 0), (.bipush 44, 44)] (pc' := 46) (lv' := [(0, .ref 9), (1, .int v1)]) (st' := [.int (44 : Int32), .ref 3]) (σ' := q3) (by decide +kernel) rfl rfl rfl ?_
      refine fhW.callv hΓ mvX8_takeSign ml_5_80 (t := 3) (ci := 8) (av := [.int (44 : Int32)]) (rest := []) (r := none) (σ' := (f_X8_takeSign (44 : Int32) q3)) (T_X8_takeSign (E := fhEn Γ) (d := fhD Γ - 1) hE (by omega) (44 : Int32) q3) (by omega) (by decide +kernel) rfl rfl rfl (Nat.le_of_ble_eq_true rfl) rfl ?_
      show fhW fhYF Γ 49 [(0, .ref 9), (1, .int v1)] [] (f_X8_takeSign (44 : Int32) q3)
      obtain ⟨q4, e3, h⟩ := fhlet_elim h
      rw [← e3]
      refine fhW.blk fhPF fhLL hΓ [(.aload_n 0, 0)] (pc' := 50) (lv' := [(0, .ref 9), (1, .int v1)]) (st' := [.ref 9]) (σ' := q4) (by decide +kernel) rfl rfl rfl ?_
      obtain ⟨q5, hb2, h⟩ := Option.bind_eq_some_iff.mp h
      refine fhW.callv hΓ mvX5_sum ml_5_35 (t := 9) (ci := 5) (av := []) (rest := []) (r := none) (σ' := q5) (hr 3 0 q4 _ hb2) (by omega) (by decide +kernel) rfl rfl rfl (Nat.le_of_ble_eq_true rfl) rfl ?_
      show fhW fhYF Γ 53 [(0, .ref 9), (1, .int v1)] [] q5
      refine fhW.blk fhPF fhLL hΓ [(.aload_n 0, 0), (.getfield 9, 0), (.bipush 41, 41)] (pc' := 59) (lv' := [(0, .ref 9), (1, .int v1)]) (st' := [.int (41 : Int32), .ref 3]) (σ' := q5) (by decide +kernel) rfl rfl rfl ?_
      refine fhW.callv hΓ mvX8_takeSign ml_5_80 (t := 3) (ci := 8) (av := [.int (41 : Int32)]) (rest := []) (r := none) (σ' := (f_X8_takeSign (41 : Int32) q5)) (T_X8_takeSign (E := fhEn Γ) (d := fhD Γ - 1) hE (by omega) (41 : Int32) q5) (by omega) (by decide +kernel) rfl rfl rfl (Nat.le_of_ble_eq_true rfl) rfl ?_
      show fhW fhYF Γ 62 [(0, .ref 9), (1, .int v1)] [] (f_X8_takeSign (41 : Int32) q5)
      obtain ⟨q6, e4, h⟩ := fhlet_elim h
      rw [← e4]
      refine fhW.blk fhPF fhLL hΓ [(.aload_n 0, 0), (.getfield 15, 0), (.iload_n 1, 0), (.iconst 0, 0)] (pc' := 68) (lv' := [(0, .ref 9), (1, .int v1)]) (st' := [.int (0 : Int32), .int v1, .ref (q6.2.2 9 1)]) (σ' := q6) (by decide +kernel) rfl rfl rfl ?_
      obtain ⟨hy1, h⟩ := fhif h
      refine fhW.callv hΓ mvX3_add ml_5_64 (t := (q6.2.2 9 1)) (ci := 3) (av := [.int v1, .int (0 : Int32)]) (rest := []) (r := none) (σ' := (f_X3_add (q6.2.2 9 1) v1 (0 : Int32) q6)) (T_X3_add (E := fhEn Γ) (d := fhD Γ - 1) hE (by omega) (q6.2.2 9 1) v1 (0 : Int32) hy1 q6) (by omega) (by decide +kernel) rfl (fhiK_g hy1) rfl (Nat.le_of_ble_eq_true rfl) rfl ?_
      show fhW fhYF Γ 71 [(0, .ref 9), (1, .int v1)] [] (f_X3_add (q6.2.2 9 1) v1 (0 : Int32) q6)
      obtain ⟨q7, e5, h⟩ := fhlet_elim h
      rw [← e5]
      refine fhW.blk fhPF fhLL hΓ [(.aload_n 0, 0), (.dup, 0), (.getfield 53, 0), (.iconst 1, 1), (.isub, 0), (.putfield 53, 0)] (pc' := 81) (lv' := [(0, .ref 9), (1, .int v1)]) (st' := []) (σ' := (fhI q7 9 4 ((q7.1 9 4) - (1 : Int32)))) (by decide +kernel) rfl rfl rfl ?_
      have e9 := Option.some.inj h
      subst e9
      exact fhW.vret hΓ (by decide +kernel) hk
  · rw [if_neg hc] at h
    refine fhW.blk fhPF fhLL hΓ [(.aload_n 0, 0), (.getfield 9, 0)] (pc' := 23) (lv' := [(0, .ref 9), (1, .int v1)]) (st' := [.ref 3]) (σ' := q1) (by decide +kernel) rfl rfl rfl ?_
    refine fhW.callv hΓ mvX8_failHere ml_5_38 (t := 3) (ci := 8) (av := []) (rest := []) (r := none) (σ' := (f_X8_failHere q1)) (T_X8_failHere (E := fhEn Γ) (d := fhD Γ - 1) hE (by omega) q1) (by omega) (by decide +kernel) rfl rfl rfl (Nat.le_of_ble_eq_true rfl) rfl ?_
    show fhW fhYF Γ 26 [(0, .ref 9), (1, .int v1)] [] (f_X8_failHere q1)
    obtain ⟨q8, e6, h⟩ := fhlet_elim h
    rw [← e6]
    refine fhW.goto hΓ (off := 55) (tgt := 81) (by decide +kernel) ?_
    have e9 := Option.some.inj h
    subst e9
    exact fhW.vret hΓ (by decide +kernel) hk
set_option maxRecDepth 100000 in
set_option maxHeartbeats 4000000 in
theorem L_X5_lookup_36 {Γ : fhX} (hE : fhEok fhYF (fhEn Γ)) (hΓ : fhOk fhYF 5 cX5_lookup 2 none Γ) (hd : 3 ≤ fhD Γ) (r : Nat → Int32 → fhM → Option fhM) (hr : ∀ (w : Nat) (a : Int32) (σ σ2 : fhM), r w a σ = some σ2 → fhC fhYF (fhEn Γ) (fhD Γ - 1) (fgMI w) (fgAV w a) σ none σ2) (v1 : Int32)  (σ : fhM) (o : fhM) (h : f_X5_lookup_36 r v1 σ = some o) (hk : (fun o => fhRet Γ none o) o) : fhW fhYF Γ 36 [(0, .ref 9), (1, .int v1)] [] σ := by
  unfold f_X5_lookup_36 at h
  refine fhW.blk fhPF fhLL hΓ [(.aload_n 0, 0)] (pc' := 37) (lv' := [(0, .ref 9), (1, .int v1)]) (st' := [.ref 9]) (σ' := σ) (by decide +kernel) rfl rfl rfl ?_
  refine fhW.callv hΓ mvX5_goDeeper ml_5_77 (t := 9) (ci := 5) (av := []) (rest := []) (r := (some (.int (fhb (f_X5_goDeeper σ).1)))) (σ' := (f_X5_goDeeper σ).2) (T_X5_goDeeper (E := fhEn Γ) (d := fhD Γ - 1) hE (by omega) σ) (by omega) (by decide +kernel) rfl rfl rfl (Nat.le_of_ble_eq_true rfl) rfl ?_
  show fhW fhYF Γ 40 [(0, .ref 9), (1, .int v1)] [.int (fhb (f_X5_goDeeper σ).1)] (f_X5_goDeeper σ).2
  obtain ⟨q1, e1, h⟩ := fhlet_elim h
  rw [← e1]
  refine fhW.b_eq hΓ (tgt := 66) (show fhbk _ _ (.ifCond .eq (26)) _ = true by decide +kernel) (fun hc => ?_) (fun hc => ?_)
  · rw [if_neg hc] at h
    have e9 := Option.some.inj h
    subst e9
    exact fhW.vret hΓ (by decide +kernel) hk
  · rw [if_pos hc] at h
    refine fhW.blk fhPF fhLL hΓ [(.aload_n 0, 0)] (pc' := 44) (lv' := [(0, .ref 9), (1, .int v1)]) (st' := [.ref 9]) (σ' := q1.2) (by decide +kernel) rfl rfl rfl ?_
    obtain ⟨q2, hb1, h⟩ := Option.bind_eq_some_iff.mp h
    refine fhW.callv hΓ mvX5_part ml_5_96 (t := 9) (ci := 5) (av := []) (rest := []) (r := none) (σ' := q2) (hr 5 0 q1.2 _ hb1) (by omega) (by decide +kernel) rfl rfl rfl (Nat.le_of_ble_eq_true rfl) rfl ?_
    show fhW fhYF Γ 47 [(0, .ref 9), (1, .int v1)] [] q2
    refine fhW.blk fhPF fhLL hΓ [(.aload_n 0, 0), (.getfield 15, 0), (.iconst 2, 2), (.iload_n 1, 0)] (pc' := 53) (lv' := [(0, .ref 9), (1, .int v1)]) (st' := [.int v1, .int (2 : Int32), .ref (q2.2.2 9 1)]) (σ' := q2) (by decide +kernel) rfl rfl rfl ?_
    obtain ⟨hy1, h⟩ := fhif h
    refine fhW.callv hΓ mvX3_add ml_5_64 (t := (q2.2.2 9 1)) (ci := 3) (av := [.int (2 : Int32), .int v1]) (rest := []) (r := none) (σ' := (f_X3_add (q2.2.2 9 1) (2 : Int32) v1 q2)) (T_X3_add (E := fhEn Γ) (d := fhD Γ - 1) hE (by omega) (q2.2.2 9 1) (2 : Int32) v1 hy1 q2) (by omega) (by decide +kernel) rfl (fhiK_g hy1) rfl (Nat.le_of_ble_eq_true rfl) rfl ?_
    show fhW fhYF Γ 56 [(0, .ref 9), (1, .int v1)] [] (f_X3_add (q2.2.2 9 1) (2 : Int32) v1 q2)
    obtain ⟨q3, e2, h⟩ := fhlet_elim h
    rw [← e2]
    refine fhW.blk fhPF fhLL hΓ [(.aload_n 0, 0), (.dup, 0), (.getfield 53, 0), (.iconst 1, 1), (.isub, 0), (.putfield 53, 0)] (pc' := 66) (lv' := [(0, .ref 9), (1, .int v1)]) (st' := []) (σ' := (fhI q3 9 4 ((q3.1 9 4) - (1 : Int32)))) (by decide +kernel) rfl rfl rfl ?_
    have e9 := Option.some.inj h
    subst e9
    exact fhW.vret hΓ (by decide +kernel) hk
set_option maxRecDepth 100000 in
set_option maxHeartbeats 4000000 in
theorem L_X5_lookup_E {Γ : fhX} (hE : fhEok fhYF (fhEn Γ)) (hΓ : fhOk fhYF 5 cX5_lookup 2 none Γ) (hd : 3 ≤ fhD Γ) (r : Nat → Int32 → fhM → Option fhM) (hr : ∀ (w : Nat) (a : Int32) (σ σ2 : fhM), r w a σ = some σ2 → fhC fhYF (fhEn Γ) (fhD Γ - 1) (fgMI w) (fgAV w a) σ none σ2)   (σ : fhM) (o : fhM) (h : f_X5_lookup r σ = some o) (hk : (fun o => fhRet Γ none o) o) : fhW fhYF Γ 0 [(0, .ref 9)] [] σ := by
  unfold f_X5_lookup at h
  refine fhW.blk fhPF fhLL hΓ [(.bipush 15, 15), (.istore_n 1, 0), (.aload_n 0, 0), (.getfield 9, 0), (.bipush 18, 18)] (pc' := 9) (lv' := [(1, .int (15 : Int32)), (0, .ref 9)]) (st' := [.int (18 : Int32), .ref 3]) (σ' := σ) (by decide +kernel) rfl rfl rfl ?_
  refine fhW.callv hΓ mvX8_isWord ml_5_60 (t := 3) (ci := 8) (av := [.int (18 : Int32)]) (rest := []) (r := (some (.int (fhb (f_X8_isWord (18 : Int32) σ))))) (σ' := σ) (T_X8_isWord (E := fhEn Γ) (d := fhD Γ - 1) hE (by omega) (18 : Int32) σ) (by omega) (by decide +kernel) rfl rfl rfl (Nat.le_of_ble_eq_true rfl) rfl ?_
  show fhW fhYF Γ 12 [(1, .int (15 : Int32)), (0, .ref 9)] [.int (fhb (f_X8_isWord (18 : Int32) σ))] σ
  refine fhW.b_eq hΓ (tgt := 21) (show fhbk _ _ (.ifCond .eq (9)) _ = true by decide +kernel) (fun hc => ?_) (fun hc => ?_)
  · simp only [if_neg hc] at h
    refine fhW.blk fhPF fhLL hΓ [(.aload_n 0, 0), (.getfield 9, 0), (.bipush 19, 19)] (pc' := 27) (lv' := [(1, .int (15 : Int32)), (0, .ref 9)]) (st' := [.int (19 : Int32), .ref 3]) (σ' := σ) (by decide +kernel) rfl rfl rfl ?_
    refine fhW.callv hΓ mvX8_isWord ml_5_60 (t := 3) (ci := 8) (av := [.int (19 : Int32)]) (rest := []) (r := (some (.int (fhb (f_X8_isWord (19 : Int32) σ))))) (σ' := σ) (T_X8_isWord (E := fhEn Γ) (d := fhD Γ - 1) hE (by omega) (19 : Int32) σ) (by omega) (by decide +kernel) rfl rfl rfl (Nat.le_of_ble_eq_true rfl) rfl ?_
    show fhW fhYF Γ 30 [(1, .int (15 : Int32)), (0, .ref 9)] [.int (fhb (f_X8_isWord (19 : Int32) σ))] σ
    refine fhW.b_eq hΓ (tgt := 36) (show fhbk _ _ (.ifCond .eq (6)) _ = true by decide +kernel) (fun hc => ?_) (fun hc => ?_)
    · simp only [if_neg hc] at h
      refine fhW.sub (lv' := [(0, .ref 9), (1, .int (15 : Int32))]) [1, 0] rfl ?_
      exact L_X5_lookup_36 hE hΓ hd r hr (15 : Int32) σ _ h hk
    · simp only [if_pos hc] at h
      refine fhW.blk fhPF fhLL hΓ [(.bipush 25, 25), (.istore_n 1, 0)] (pc' := 36) (lv' := [(1, .int (25 : Int32)), (0, .ref 9)]) (st' := []) (σ' := σ) (by decide +kernel) rfl rfl rfl ?_
      refine fhW.sub (lv' := [(0, .ref 9), (1, .int (25 : Int32))]) [1, 0] rfl ?_
      exact L_X5_lookup_36 hE hΓ hd r hr (25 : Int32) σ _ h hk
  · simp only [if_pos hc] at h
    refine fhW.blk fhPF fhLL hΓ [(.bipush 20, 20), (.istore_n 1, 0)] (pc' := 18) (lv' := [(1, .int (20 : Int32)), (0, .ref 9)]) (st' := []) (σ' := σ) (by decide +kernel) rfl rfl rfl ?_
    refine fhW.goto hΓ (off := 18) (tgt := 36) (by decide +kernel) ?_
    refine fhW.sub (lv' := [(0, .ref 9), (1, .int (20 : Int32))]) [1, 0] rfl ?_
    exact L_X5_lookup_36 hE hΓ hd r hr (20 : Int32) σ _ h hk
set_option maxRecDepth 100000 in
theorem T_fgR {E : fhE} (hE : fhEok fhYF E) : ∀ (n d : Nat), 3 + n ≤ d → ∀ (w : Nat) (a : Int32) (σ σ2 : fhM), fgR n w a σ = some σ2 → fhC fhYF E d (fgMI w) (fgAV w a) σ none σ2 := by
  intro n
  induction n with
  | zero => intro d _ w a σ σ2 h; cases h
  | succ n ih =>
    intro d hd w a σ σ2 h
    match w, h with
    | 0, h =>
      show fhC fhYF E d miX5_test [.ref 9] σ none σ2
      refine fhC.of (y := yX5_test) (cc := cX5_test) (nL := 2) (ret := none) 5 rfl (by decide +kernel) (Nat.le_of_ble_eq_true rfl) ?_
      intro Γ hΓ hR hD hEn
      subst hD; subst hEn
      exact L_X5_test_E hE hΓ (by omega) (fgR n) (ih (fhD Γ - 1) (by omega)) σ _ h hR
    | 1, h =>
      show fhC fhYF E d miX5_both [.ref 9] σ none σ2
      refine fhC.of (y := yX5_both) (cc := cX5_both) (nL := 2) (ret := none) 5 rfl (by decide +kernel) (Nat.le_of_ble_eq_true rfl) ?_
      intro Γ hΓ hR hD hEn
      subst hD; subst hEn
      exact L_X5_both_E hE hΓ (by omega) (fgR n) (ih (fhD Γ - 1) (by omega)) σ _ h hR
    | 2, h =>
      show fhC fhYF E d miX5_claim [.ref 9] σ none σ2
      refine fhC.of (y := yX5_claim) (cc := cX5_claim) (nL := 2) (ret := none) 5 rfl (by decide +kernel) (Nat.le_of_ble_eq_true rfl) ?_
      intro Γ hΓ hR hD hEn
      subst hD; subst hEn
      exact L_X5_claim_E hE hΓ (by omega) (fgR n) (ih (fhD Γ - 1) (by omega)) σ _ h hR
    | 3, h =>
      show fhC fhYF E d miX5_sum [.ref 9] σ none σ2
      refine fhC.of (y := yX5_sum) (cc := cX5_sum) (nL := 3) (ret := none) 5 rfl (by decide +kernel) (Nat.le_of_ble_eq_true rfl) ?_
      intro Γ hΓ hR hD hEn
      subst hD; subst hEn
      exact L_X5_sum_E hE hΓ (by omega) (fgR n) (ih (fhD Γ - 1) (by omega)) σ _ h hR
    | 4, h =>
      show fhC fhYF E d miX5_product [.ref 9] σ none σ2
      refine fhC.of (y := yX5_product) (cc := cX5_product) (nL := 3) (ret := none) 5 rfl (by decide +kernel) (Nat.le_of_ble_eq_true rfl) ?_
      intro Γ hΓ hR hD hEn
      subst hD; subst hEn
      exact L_X5_product_E hE hΓ (by omega) (fgR n) (ih (fhD Γ - 1) (by omega)) σ _ h hR
    | 5, h =>
      show fhC fhYF E d miX5_part [.ref 9] σ none σ2
      refine fhC.of (y := yX5_part) (cc := cX5_part) (nL := 1) (ret := none) 5 rfl (by decide +kernel) (Nat.le_of_ble_eq_true rfl) ?_
      intro Γ hΓ hR hD hEn
      subst hD; subst hEn
      exact L_X5_part_E hE hΓ (by omega) (fgR n) (ih (fhD Γ - 1) (by omega)) σ _ h hR
    | 6, h =>
      show fhC fhYF E d miX5_pair [.ref 9, .int a] σ none σ2
      refine fhC.of (y := yX5_pair) (cc := cX5_pair) (nL := 2) (ret := none) 5 rfl (by decide +kernel) (Nat.le_of_ble_eq_true rfl) ?_
      intro Γ hΓ hR hD hEn
      subst hD; subst hEn
      exact L_X5_pair_E hE hΓ (by omega) (fgR n) (ih (fhD Γ - 1) (by omega)) a σ _ h hR
    | w + 7, h =>
      show fhC fhYF E d miX5_lookup [.ref 9] σ none σ2
      refine fhC.of (y := yX5_lookup) (cc := cX5_lookup) (nL := 2) (ret := none) 5 rfl (by decide +kernel) (Nat.le_of_ble_eq_true rfl) ?_
      intro Γ hΓ hR hD hEn
      subst hD; subst hEn
      exact L_X5_lookup_E hE hΓ (by omega) (fgR n) (ih (fhD Γ - 1) (by omega)) σ _ h hR
theorem T_X5_testN {E : fhE} {d : Nat} (hE : fhEok fhYF E) (hd : 67 ≤ d) (σ : fhM) {o : fhM} (h : f_X5_testN σ = some o) : fhC fhYF E d miX5_test [.ref 9] σ none o := T_fgR hE 64 d hd 0 0 σ o h
theorem T_X5_bothN {E : fhE} {d : Nat} (hE : fhEok fhYF E) (hd : 67 ≤ d) (σ : fhM) {o : fhM} (h : f_X5_bothN σ = some o) : fhC fhYF E d miX5_both [.ref 9] σ none o := T_fgR hE 64 d hd 1 0 σ o h
theorem T_X5_claimN {E : fhE} {d : Nat} (hE : fhEok fhYF E) (hd : 67 ≤ d) (σ : fhM) {o : fhM} (h : f_X5_claimN σ = some o) : fhC fhYF E d miX5_claim [.ref 9] σ none o := T_fgR hE 64 d hd 2 0 σ o h
theorem T_X5_sumN {E : fhE} {d : Nat} (hE : fhEok fhYF E) (hd : 67 ≤ d) (σ : fhM) {o : fhM} (h : f_X5_sumN σ = some o) : fhC fhYF E d miX5_sum [.ref 9] σ none o := T_fgR hE 64 d hd 3 0 σ o h
theorem T_X5_productN {E : fhE} {d : Nat} (hE : fhEok fhYF E) (hd : 67 ≤ d) (σ : fhM) {o : fhM} (h : f_X5_productN σ = some o) : fhC fhYF E d miX5_product [.ref 9] σ none o := T_fgR hE 64 d hd 4 0 σ o h
theorem T_X5_partN {E : fhE} {d : Nat} (hE : fhEok fhYF E) (hd : 67 ≤ d) (σ : fhM) {o : fhM} (h : f_X5_partN σ = some o) : fhC fhYF E d miX5_part [.ref 9] σ none o := T_fgR hE 64 d hd 5 0 σ o h
theorem T_X5_pairN {E : fhE} {d : Nat} (hE : fhEok fhYF E) (hd : 67 ≤ d) (a : Int32) (σ : fhM) {o : fhM} (h : f_X5_pairN a σ = some o) : fhC fhYF E d miX5_pair [.ref 9, .int a] σ none o := T_fgR hE 64 d hd 6 a σ o h
theorem T_X5_lookupN {E : fhE} {d : Nat} (hE : fhEok fhYF E) (hd : 67 ≤ d) (σ : fhM) {o : fhM} (h : f_X5_lookupN σ = some o) : fhC fhYF E d miX5_lookup [.ref 9] σ none o := T_fgR hE 64 d hd 7 0 σ o h

