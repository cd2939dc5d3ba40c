set_option maxRecDepth 100000 in
set_option maxHeartbeats 4000000 in
theorem L_X8_takeWord_12 {Γ : fhX} (hE : fhEok fhYF (fhEn Γ)) (hΓ : fhOk fhYF 8 cX8_takeWord 2 none Γ) (hd : 2 ≤ fhD Γ)   (σ : fhM) (o : fhM) (h : f_X8_takeWord_12 σ = o) (hk : (fun o => fhRet Γ none o) o) : fhW fhYF Γ 12 [(0, .ref 3)] [] σ := by
  unfold f_X8_takeWord_12 at h
  refine fhW.blk fhPF fhLL hΓ [(.aload_n 0, 0)] (pc' := 13) (lv' := [(0, .ref 3)]) (st' := [.ref 3]) (σ' := σ) (by decide +kernel) rfl rfl rfl ?_
  refine fhW.callv hΓ mvX8_advance ml_8_44 (t := 3) (ci := 8) (av := []) (rest := []) (r := none) (σ' := (f_X8_advance σ)) (T_X8_advance (E := fhEn Γ) (d := fhD Γ - 1) hE (by omega) σ) (by omega) (by decide +kernel) rfl rfl rfl (Nat.le_of_ble_eq_true rfl) rfl ?_
  show fhW fhYF Γ 16 [(0, .ref 3)] [] (f_X8_advance σ)
  obtain ⟨q2, e1, h⟩ := fhlet_elim h
  rw [← e1]
  subst h
  exact fhW.vret hΓ (by decide +kernel) hk
set_option maxRecDepth 100000 in
set_option maxHeartbeats 4000000 in
theorem L_X8_takeWord_E {Γ : fhX} (hE : fhEok fhYF (fhEn Γ)) (hΓ : fhOk fhYF 8 cX8_takeWord 2 none Γ) (hd : 2 ≤ fhD Γ) (v1 : Int32)  (σ : fhM) (o : fhM) (h : f_X8_takeWord v1 σ = o) (hk : (fun o => fhRet Γ none o) o) : fhW fhYF Γ 0 [(0, .ref 3), (1, .int v1)] [] σ := by
  unfold f_X8_takeWord at h
  refine fhW.blk fhPF fhLL hΓ [(.aload_n 0, 0), (.iload_n 1, 0)] (pc' := 2) (lv' := [(0, .ref 3), (1, .int v1)]) (st' := [.int v1, .ref 3]) (σ' := σ) (by decide +kernel) rfl rfl rfl ?_
  refine fhW.callv hΓ mvX8_isWord ml_8_93 (t := 3) (ci := 8) (av := [.int v1]) (rest := []) (r := (some (.int (fhb (f_X8_isWord v1 σ))))) (σ' := σ) (T_X8_isWord (E := fhEn Γ) (d := fhD Γ - 1) hE (by omega) v1 σ) (by omega) (by decide +kernel) rfl rfl rfl (Nat.le_of_ble_eq_true rfl) rfl ?_
  show fhW fhYF Γ 5 [(0, .ref 3), (1, .int v1)] [.int (fhb (f_X8_isWord v1 σ))] σ
  refine fhW.b_ne hΓ (tgt := 12) (show fhbk _ _ (.ifCond .ne (7)) _ = true by decide +kernel) (fun hc => ?_) (fun hc => ?_)
  · rw [if_pos hc] at h
    refine fhW.sub (lv' := [(0, .ref 3)]) [0] rfl ?_
    exact L_X8_takeWord_12 hE hΓ hd σ _ h hk
  · rw [if_neg hc] at h
    refine fhW.blk fhPF fhLL hΓ [(.aload_n 0, 0)] (pc' := 9) (lv' := [(0, .ref 3), (1, .int v1)]) (st' := [.ref 3]) (σ' := σ) (by decide +kernel) rfl rfl rfl ?_
    refine fhW.callv hΓ mvX8_failHere ml_8_97 (t := 3) (ci := 8) (av := []) (rest := []) (r := none) (σ' := (f_X8_failHere σ)) (T_X8_failHere (E := fhEn Γ) (d := fhD Γ - 1) hE (by omega) σ) (by omega) (by decide +kernel) rfl rfl rfl (Nat.le_of_ble_eq_true rfl) rfl ?_
    show fhW fhYF Γ 12 [(0, .ref 3), (1, .int v1)] [] (f_X8_failHere σ)
    obtain ⟨q1, e2, h⟩ := fhlet_elim h
    rw [← e2]
    refine fhW.sub (lv' := [(0, .ref 3)]) [0] rfl ?_
    exact L_X8_takeWord_12 hE hΓ hd q1 _ h hk
set_option maxRecDepth 100000 in
theorem T_X8_takeWord {E : fhE} {d : Nat} (hE : fhEok fhYF E) (hd : 2 ≤ d) (v1 : Int32)  (σ : fhM) : fhC fhYF E d miX8_takeWord [.ref 3, .int v1] σ none (f_X8_takeWord v1 σ) := by
  refine fhC.of (y := yX8_takeWord) (cc := cX8_takeWord) (nL := 2) (ret := none) 8 rfl (by decide +kernel) (Nat.le_of_ble_eq_true rfl) ?_
  intro Γ hΓ hR hD hEn
  subst hD; subst hEn
  exact L_X8_takeWord_E hE hΓ hd v1  σ _ rfl hR
set_option maxRecDepth 100000 in
set_option maxHeartbeats 4000000 in
theorem L_X7_readGuest_34 {Γ : fhX} (hE : fhEok fhYF (fhEn Γ)) (hΓ : fhOk fhYF 7 cX7_readGuest 4 none Γ) (hd : 4 ≤ fhD Γ) (v0 : Nat) (v2 : Int32) (hv0 : fhiP v0 = true) (σ : fhM) (o : fhM) (h : f_X7_readGuest_34 v0 v2 σ = some o) (hk : (fun o => fhRet Γ none o) o) : fhW fhYF Γ 34 [(0, .ref v0), (2, .int v2)] [] σ := by
  unfold f_X7_readGuest_34 at h
  refine fhW.blk fhPF fhLL hΓ [(.aload_n 0, 0), (.getfield 36, 0), (.iconst 2, 2)] (pc' := 39) (lv' := [(0, .ref v0), (2, .int v2)]) (st' := [.int (2 : Int32), .ref 3]) (σ' := σ) (by decide +kernel) rfl rfl (by rcases fhiP_or hv0 with rfl | rfl <;> rfl) ?_
  refine fhW.callv hΓ mvX8_takeWord ml_7_153 (t := 3) (ci := 8) (av := [.int (2 : Int32)]) (rest := []) (r := none) (σ' := (f_X8_takeWord (2 : Int32) σ)) (T_X8_takeWord (E := fhEn Γ) (d := fhD Γ - 1) hE (by omega) (2 : Int32) σ) (by omega) (by decide +kernel) rfl rfl rfl (Nat.le_of_ble_eq_true rfl) rfl ?_
  show fhW fhYF Γ 42 [(0, .ref v0), (2, .int v2)] [] (f_X8_takeWord (2 : Int32) σ)
  obtain ⟨q4, e1, h⟩ := fhlet_elim h
  rw [← e1]
  refine fhW.blk fhPF fhLL hΓ [(.aload_n 0, 0), (.getfield 36, 0), (.iconst 0, 0), (.aload_n 0, 0), (.getfield 66, 0), (.iconst 1, 1)] (pc' := 52) (lv' := [(0, .ref v0), (2, .int v2)]) (st' := [.int (1 : Int32), .int (q4.1 v0 9), .int (0 : Int32), .ref 3]) (σ' := q4) (by decide +kernel) rfl rfl (by rcases fhiP_or hv0 with rfl | rfl <;> rfl) ?_
  refine fhW.blk fhPF fhLL hΓ [(.isub, 0)] (pc' := 53) (lv' := [(0, .ref v0), (2, .int v2)]) (st' := [.int ((q4.1 v0 9) - (1 : Int32)), .int (0 : Int32), .ref 3]) (σ' := q4) (by decide +kernel) rfl rfl rfl ?_
  refine fhW.callv hΓ mvX8_takeNumberWithin ml_7_107 (t := 3) (ci := 8) (av := [.int (0 : Int32), .int ((q4.1 v0 9) - (1 : Int32))]) (rest := []) (r := (some (.int (f_X8_takeNumberWithin (0 : Int32) ((q4.1 v0 9) - (1 : Int32)) q4).1))) (σ' := (f_X8_takeNumberWithin (0 : Int32) ((q4.1 v0 9) - (1 : Int32)) q4).2) (T_X8_takeNumberWithin (E := fhEn Γ) (d := fhD Γ - 1) hE (by omega) (0 : Int32) ((q4.1 v0 9) - (1 : Int32)) q4) (by omega) (by decide +kernel) rfl rfl rfl (Nat.le_of_ble_eq_true rfl) rfl ?_
  show fhW fhYF Γ 56 [(0, .ref v0), (2, .int v2)] [.int (f_X8_takeNumberWithin (0 : Int32) ((q4.1 v0 9) - (1 : Int32)) q4).1] (f_X8_takeNumberWithin (0 : Int32) ((q4.1 v0 9) - (1 : Int32)) q4).2
  obtain ⟨q5, e2, h⟩ := fhlet_elim h
  rw [← e2]
  refine fhW.blk fhPF fhLL hΓ [(.istore_n 3, 0), (.aload_n 0, 0), (.getfield 33, 0), (.aload_n 0, 0), (.getfield 69, 0), (.iload_n 2, 0)] (pc' := 66) (lv' := [(3, .int q5.1), (0, .ref v0), (2, .int v2)]) (st' := [.int v2, .int (q5.2.1 v0 10), .ref (v0 + 10)]) (σ' := q5.2) (by decide +kernel) rfl rfl (by rcases fhiP_or hv0 with rfl | rfl <;> rfl) ?_
  refine fhW.callv hΓ mvX2_put ml_7_143 (t := (v0 + 10)) (ci := 2) (av := [.int (q5.2.1 v0 10), .int v2]) (rest := []) (r := none) (σ' := (fcP q5.2 (v0 + 10) (q5.2.1 v0 10) v2)) (T_X2_put (E := fhEn Γ) (d := fhD Γ - 1) hE (by omega) (v0 + 10) (q5.2.1 v0 10) v2 (fhiP_ind (p := fun q => fhiC (q + 10) = true) hv0 rfl rfl) q5.2) (by omega) (by decide +kernel) rfl (fhiC_g (fhiP_ind (p := fun q => fhiC (q + 10) = true) hv0 rfl rfl)) rfl (Nat.le_of_ble_eq_true rfl) rfl ?_
  show fhW fhYF Γ 69 [(3, .int q5.1), (0, .ref v0), (2, .int v2)] [] (fcP q5.2 (v0 + 10) (q5.2.1 v0 10) v2)
  refine fhW.blk fhPF fhLL hΓ [(.aload_n 0, 0), (.dup, 0), (.getfield 69, 0), (.iconst 1, 1), (.iadd, 0), (.putfield 69, 0)] (pc' := 79) (lv' := [(3, .int q5.1), (0, .ref v0), (2, .int v2)]) (st' := []) (σ' := (fhI (fcP q5.2 (v0 + 10) (q5.2.1 v0 10) v2) v0 10 (((fcP q5.2 (v0 + 10) (q5.2.1 v0 10) v2).1 v0 10) + (1 : Int32)))) (by decide +kernel) rfl rfl (by rcases fhiP_or hv0 with rfl | rfl <;> rfl) ?_
  refine fhW.blk fhPF fhLL hΓ [(.aload_n 0, 0), (.dup, 0), (.getfield 63, 0), (.iload_n 3, 0), (.aload_n 0, 0), (.getfield 91, 0)] (pc' := 89) (lv' := [(3, .int q5.1), (0, .ref v0), (2, .int v2)]) (st' := [.int ((fhI (fcP q5.2 (v0 + 10) (q5.2.1 v0 10) v2) v0 10 (((fcP q5.2 (v0 + 10) (q5.2.1 v0 10) v2).1 v0 10) + (1 : Int32))).1 v0 6), .int q5.1, .int ((fhI (fcP q5.2 (v0 + 10) (q5.2.1 v0 10) v2) v0 10 (((fcP q5.2 (v0 + 10) (q5.2.1 v0 10) v2).1 v0 10) + (1 : Int32))).1 v0 14), .ref v0]) (σ' := (fhI (fcP q5.2 (v0 + 10) (q5.2.1 v0 10) v2) v0 10 (((fcP q5.2 (v0 + 10) (q5.2.1 v0 10) v2).1 v0 10) + (1 : Int32)))) (by decide +kernel) rfl rfl (by rcases fhiP_or hv0 with rfl | rfl <;> rfl) ?_
  refine fhW.blk fhPF fhLL hΓ [(.imul, 0), (.iadd, 0), (.putfield 63, 0), (.aload_n 0, 0), (.dup, 0), (.getfield 91, 0)] (pc' := 99) (lv' := [(3, .int q5.1), (0, .ref v0), (2, .int v2)]) (st' := [.int ((fhI (fhI (fcP q5.2 (v0 + 10) (q5.2.1 v0 10) v2) v0 10 (((fcP q5.2 (v0 + 10) (q5.2.1 v0 10) v2).1 v0 10) + (1 : Int32))) v0 14 (((fhI (fcP q5.2 (v0 + 10) (q5.2.1 v0 10) v2) v0 10 (((fcP q5.2 (v0 + 10) (q5.2.1 v0 10) v2).1 v0 10) + (1 : Int32))).1 v0 14) + (q5.1 * ((fhI (fcP q5.2 (v0 + 10) (q5.2.1 v0 10) v2) v0 10 (((fcP q5.2 (v0 + 10) (q5.2.1 v0 10) v2).1 v0 10) + (1 : Int32))).1 v0 6)))).1 v0 6), .ref v0]) (σ' := (fhI (fhI (fcP q5.2 (v0 + 10) (q5.2.1 v0 10) v2) v0 10 (((fcP q5.2 (v0 + 10) (q5.2.1 v0 10) v2).1 v0 10) + (1 : Int32))) v0 14 (((fhI (fcP q5.2 (v0 + 10) (q5.2.1 v0 10) v2) v0 10 (((fcP q5.2 (v0 + 10) (q5.2.1 v0 10) v2).1 v0 10) + (1 : Int32))).1 v0 14) + (q5.1 * ((fhI (fcP q5.2 (v0 + 10) (q5.2.1 v0 10) v2) v0 10 (((fcP q5.2 (v0 + 10) (q5.2.1 v0 10) v2).1 v0 10) + (1 : Int32))).1 v0 6))))) (by decide +kernel) rfl rfl (by rcases fhiP_or hv0 with rfl | rfl <;> rfl) ?_
  refine fhW.blk fhPF fhLL hΓ [(.aload_n 0, 0), (.getfield 66, 0), (.imul, 0), (.putfield 91, 0)] (pc' := 107) (lv' := [(3, .int q5.1), (0, .ref v0), (2, .int v2)]) (st' := []) (σ' := (fhI (fhI (fhI (fcP q5.2 (v0 + 10) (q5.2.1 v0 10) v2) v0 10 (((fcP q5.2 (v0 + 10) (q5.2.1 v0 10) v2).1 v0 10) + (1 : Int32))) v0 14 (((fhI (fcP q5.2 (v0 + 10) (q5.2.1 v0 10) v2) v0 10 (((fcP q5.2 (v0 + 10) (q5.2.1 v0 10) v2).1 v0 10) + (1 : Int32))).1 v0 14) + (q5.1 * ((fhI (fcP q5.2 (v0 + 10) (q5.2.1 v0 10) v2) v0 10 (((fcP q5.2 (v0 + 10) (q5.2.1 v0 10) v2).1 v0 10) + (1 : Int32))).1 v0 6)))) v0 6 (((fhI (fhI (fcP q5.2 (v0 + 10) (q5.2.1 v0 10) v2) v0 10 (((fcP q5.2 (v0 + 10) (q5.2.1 v0 10) v2).1 v0 10) + (1 : Int32))) v0 14 (((fhI (fcP q5.2 (v0 + 10) (q5.2.1 v0 10) v2) v0 10 (((fcP q5.2 (v0 + 10) (q5.2.1 v0 10) v2).1 v0 10) + (1 : Int32))).1 v0 14) + (q5.1 * ((fhI (fcP q5.2 (v0 + 10) (q5.2.1 v0 10) v2) v0 10 (((fcP q5.2 (v0 + 10) (q5.2.1 v0 10) v2).1 v0 10) + (1 : Int32))).1 v0 6)))).1 v0 6) * ((fhI (fhI (fcP q5.2 (v0 + 10) (q5.2.1 v0 10) v2) v0 10 (((fcP q5.2 (v0 + 10) (q5.2.1 v0 10) v2).1 v0 10) + (1 : Int32))) v0 14 (((fhI (fcP q5.2 (v0 + 10) (q5.2.1 v0 10) v2) v0 10 (((fcP q5.2 (v0 + 10) (q5.2.1 v0 10) v2).1 v0 10) + (1 : Int32))).1 v0 14) + (q5.1 * ((fhI (fcP q5.2 (v0 + 10) (q5.2.1 v0 10) v2) v0 10 (((fcP q5.2 (v0 + 10) (q5.2.1 v0 10) v2).1 v0 10) + (1 : Int32))).1 v0 6)))).1 v0 9)))) (by decide +kernel) rfl rfl (by rcases fhiP_or hv0 with rfl | rfl <;> rfl) ?_
  have e9 := Option.some.inj h
  subst e9
  exact fhW.vret hΓ (by decide +kernel) hk
set_option maxRecDepth 100000 in
set_option maxHeartbeats 4000000 in
theorem L_X7_readGuest_E {Γ : fhX} (hE : fhEok fhYF (fhEn Γ)) (hΓ : fhOk fhYF 7 cX7_readGuest 4 none Γ) (hd : 4 ≤ fhD Γ) (v0 : Nat) (hv0 : fhiP v0 = true) (σ : fhM) (o : fhM) (h : f_X7_readGuest v0 σ = some o) (hk : (fun o => fhRet Γ none o) o) : fhW fhYF Γ 0 [(0, .ref v0)] [] σ := by
  unfold f_X7_readGuest at h
  refine fhW.blk fhPF fhLL hΓ [(.aload_n 0, 0), (.getfield 36, 0), (.getfield 134, 0), (.istore_n 1, 0), (.aload_n 0, 0), (.getfield 36, 0)] (pc' := 12) (lv' := [(1, .int (σ.1 3 8)), (0, .ref v0)]) (st' := [.ref 3]) (σ' := σ) (by decide +kernel) rfl rfl (by rcases fhiP_or hv0 with rfl | rfl <;> rfl) ?_
  refine fhW.callv hΓ mvX8_takeName ml_7_146 (t := 3) (ci := 8) (av := []) (rest := []) (r := (some (.int (f_X8_takeName σ).1))) (σ' := (f_X8_takeName σ).2) (T_X8_takeName (E := fhEn Γ) (d := fhD Γ - 1) hE (by omega) σ) (by omega) (by decide +kernel) rfl rfl rfl (Nat.le_of_ble_eq_true rfl) rfl ?_
  show fhW fhYF Γ 15 [(1, .int (σ.1 3 8)), (0, .ref v0)] [.int (f_X8_takeName σ).1] (f_X8_takeName σ).2
  obtain ⟨q1, e3, h⟩ := fhlet_elim h
  rw [← e3]
  refine fhW.blk fhPF fhLL hΓ [(.istore_n 2, 0), (.aload_n 0, 0), (.iload_n 2, 0)] (pc' := 18) (lv' := [(2, .int q1.1), (1, .int (σ.1 3 8)), (0, .ref v0)]) (st' := [.int q1.1, .ref v0]) (σ' := q1.2) (by decide +kernel) rfl rfl rfl ?_
  obtain ⟨q2, hb1, h⟩ := Option.bind_eq_some_iff.mp h
  refine fhW.callv hΓ mvX7_guestNamed ml_7_149 (t := v0) (ci := 7) (av := [.int q1.1]) (rest := []) (r := (some (.int q2))) (σ' := q1.2) (T_X7_guestNamed (E := fhEn Γ) (d := fhD Γ - 1) hE (by omega) v0 q1.1 hv0 q1.2 hb1) (by omega) (by decide +kernel) rfl (fhiP_g hv0) rfl (Nat.le_of_ble_eq_true rfl) rfl ?_
  show fhW fhYF Γ 21 [(2, .int q1.1), (1, .int (σ.1 3 8)), (0, .ref v0)] [.int q2] q1.2
  refine fhW.blk fhPF fhLL hΓ [(.iconst (-1), -1)] (pc' := 22) (lv' := [(2, .int q1.1), (1, .int (σ.1 3 8)), (0, .ref v0)]) (st' := [.int (-1 : Int32), .int q2]) (σ' := q1.2) (by decide +kernel) rfl rfl rfl ?_
  refine fhW.i_eq hΓ (tgt := 34) (show fhbk _ _ (.if_icmp .eq (12)) _ = true by decide +kernel) (fun hc => ?_) (fun hc => ?_)
  · rw [if_pos hc] at h
    refine fhW.sub (lv' := [(0, .ref v0), (2, .int q1.1)]) [2, 0] rfl ?_
    exact L_X7_readGuest_34 hE hΓ hd v0 q1.1 hv0 q1.2 _ h hk
  · rw [if_neg hc] at h
    refine fhW.blk fhPF fhLL hΓ [(.aload_n 0, 0), (.getfield 36, 0), (.iconst 3, 3), (.iload_n 1, 0)] (pc' := 31) (lv' := [(2, .int q1.1), (1, .int (σ.1 3 8)), (0, .ref v0)]) (st' := [.int (σ.1 3 8), .int (3 : Int32), .ref 3]) (σ' := q1.2) (by decide +kernel) rfl rfl (by rcases fhiP_or hv0 with rfl | rfl <;> rfl) ?_
    refine fhW.callv hΓ mvX8_fail ml_7_137 (t := 3) (ci := 8) (av := [.int (3 : Int32), .int (σ.1 3 8)]) (rest := []) (r := none) (σ' := (f_X8_fail (3 : Int32) (σ.1 3 8) q1.2)) (T_X8_fail (E := fhEn Γ) (d := fhD Γ - 1) hE (by omega) (3 : Int32) (σ.1 3 8) q1.2) (by omega) (by decide +kernel) rfl rfl rfl (Nat.le_of_ble_eq_true rfl) rfl ?_
    show fhW fhYF Γ 34 [(2, .int q1.1), (1, .int (σ.1 3 8)), (0, .ref v0)] [] (f_X8_fail (3 : Int32) (σ.1 3 8) q1.2)
    obtain ⟨q3, e4, h⟩ := fhlet_elim h
    rw [← e4]
    refine fhW.sub (lv' := [(0, .ref v0), (2, .int q1.1)]) [2, 0] rfl ?_
    exact L_X7_readGuest_34 hE hΓ hd v0 q1.1 hv0 q3 _ h hk
set_option maxRecDepth 100000 in
theorem T_X7_readGuest {E : fhE} {d : Nat} (hE : fhEok fhYF E) (hd : 4 ≤ d) (v0 : Nat) (hv0 : fhiP v0 = true) (σ : fhM) {o : fhM} (h : f_X7_readGuest v0 σ = some o) : fhC fhYF E d miX7_readGuest [.ref v0] σ none o := by
  refine fhC.of (y := yX7_readGuest) (cc := cX7_readGuest) (nL := 4) (ret := none) 7 rfl (by decide +kernel) (Nat.le_of_ble_eq_true rfl) ?_
  intro Γ hΓ hR hD hEn
  subst hD; subst hEn
  exact L_X7_readGuest_E hE hΓ hd v0 hv0 σ _ h hR
set_option maxRecDepth 100000 in
set_option maxHeartbeats 4000000 in
theorem L_X7_readBlind_92 {Γ : fhX} (hE : fhEok fhYF (fhEn Γ)) (hΓ : fhOk fhYF 7 cX7_readBlind 4 none Γ) (hd : 3 ≤ fhD Γ) (v0 : Nat) (v1 : Int32) (hv0 : fhiP v0 = true) (σ : fhM) (o : fhM) (h : f_X7_readBlind_92 v0 v1 σ = some o) (hk : (fun o => fhRet Γ none o) o) : fhW fhYF Γ 92 [(0, .ref v0), (1, .int v1)] [] σ := by
  unfold f_X7_readBlind_92 at h
  refine fhW.blk fhPF fhLL hΓ [(.aload_n 0, 0), (.getfield 36, 0), (.iconst 3, 3), (.iload_n 1, 0)] (pc' := 98) (lv' := [(0, .ref v0), (1, .int v1)]) (st' := [.int v1, .int (3 : Int32), .ref 3]) (σ' := σ) (by decide +kernel) rfl rfl (by rcases fhiP_or hv0 with rfl | rfl <;> rfl) ?_
  refine fhW.callv hΓ mvX8_fail ml_7_137 (t := 3) (ci := 8) (av := [.int (3 : Int32), .int v1]) (rest := []) (r := none) (σ' := (f_X8_fail (3 : Int32) v1 σ)) (T_X8_fail (E := fhEn Γ) (d := fhD Γ - 1) hE (by omega) (3 : Int32) v1 σ) (by omega) (by decide +kernel) rfl rfl rfl (Nat.le_of_ble_eq_true rfl) rfl ?_
  show fhW fhYF Γ 101 [(0, .ref v0), (1, .int v1)] [] (f_X8_fail (3 : Int32) v1 σ)
  obtain ⟨q7, e1, h⟩ := fhlet_elim h
  rw [← e1]
  have e9 := Option.some.inj h
  subst e9
  exact fhW.vret hΓ (by decide +kernel) hk
set_option maxRecDepth 100000 in
set_option maxHeartbeats 4000000 in
theorem L_X7_readBlind_34 {Γ : fhX} (hE : fhEok fhYF (fhEn Γ)) (hΓ : fhOk fhYF 7 cX7_readBlind 4 none Γ) (hd : 3 ≤ fhD Γ) (v0 : Nat) (v2 : Int32) (hv0 : fhiP v0 = true) (σ : fhM) (o : fhM) (h : f_X7_readBlind_34 v0 v2 σ = some o) (hk : (fun o => fhRet Γ none o) o) : fhW fhYF Γ 34 [(0, .ref v0), (2, .int v2)] [] σ := by
  unfold f_X7_readBlind_34 at h
  refine fhW.blk fhPF fhLL hΓ [(.aload_n 0, 0), (.getfield 36, 0), (.iconst 4, 4)] (pc' := 39) (lv' := [(0, .ref v0), (2, .int v2)]) (st' := [.int (4 : Int32), .ref 3]) (σ' := σ) (by decide +kernel) rfl rfl (by rcases fhiP_or hv0 with rfl | rfl <;> rfl) ?_
  refine fhW.callv hΓ mvX8_takeWord ml_7_153 (t := 3) (ci := 8) (av := [.int (4 : Int32)]) (rest := []) (r := none) (σ' := (f_X8_takeWord (4 : Int32) σ)) (T_X8_takeWord (E := fhEn Γ) (d := fhD Γ - 1) hE (by omega) (4 : Int32) σ) (by omega) (by decide +kernel) rfl rfl rfl (Nat.le_of_ble_eq_true rfl) rfl ?_
  show fhW fhYF Γ 42 [(0, .ref v0), (2, .int v2)] [] (f_X8_takeWord (4 : Int32) σ)
  obtain ⟨q4, e2, h⟩ := fhlet_elim h
  rw [← e2]
  refine fhW.blk fhPF fhLL hΓ [(.aload_n 0, 0), (.getfield 36, 0), (.getfield 134, 0), (.istore_n 1, 0), (.aload_n 0, 0), (.aload_n 0, 0)] (pc' := 52) (lv' := [(1, .int (q4.1 3 8)), (0, .ref v0), (2, .int v2)]) (st' := [.ref v0, .ref v0]) (σ' := q4) (by decide +kernel) rfl rfl (by rcases fhiP_or hv0 with rfl | rfl <;> rfl) ?_
  refine fhW.blk fhPF fhLL hΓ [(.getfield 36, 0)] (pc' := 55) (lv' := [(1, .int (q4.1 3 8)), (0, .ref v0), (2, .int v2)]) (st' := [.ref 3, .ref v0]) (σ' := q4) (by decide +kernel) rfl rfl (by rcases fhiP_or hv0 with rfl | rfl <;> rfl) ?_
  refine fhW.callv hΓ mvX8_takeName ml_7_146 (t := 3) (ci := 8) (av := []) (rest := [.ref v0]) (r := (some (.int (f_X8_takeName q4).1))) (σ' := (f_X8_takeName q4).2) (T_X8_takeName (E := fhEn Γ) (d := fhD Γ - 1) hE (by omega) q4) (by omega) (by decide +kernel) rfl rfl rfl (Nat.le_of_ble_eq_true rfl) rfl ?_
  show fhW fhYF Γ 58 [(1, .int (q4.1 3 8)), (0, .ref v0), (2, .int v2)] [.int (f_X8_takeName q4).1, .ref v0] (f_X8_takeName q4).2
  obtain ⟨q5, e3, h⟩ := fhlet_elim h
  rw [← e3]
  obtain ⟨q6, hb1, h⟩ := Option.bind_eq_some_iff.mp h
  refine fhW.callv hΓ mvX7_guestNamed ml_7_149 (t := v0) (ci := 7) (av := [.int q5.1]) (rest := []) (r := (some (.int q6))) (σ' := q5.2) (T_X7_guestNamed (E := fhEn Γ) (d := fhD Γ - 1) hE (by omega) v0 q5.1 hv0 q5.2 hb1) (by omega) (by decide +kernel) rfl (fhiP_g hv0) rfl (Nat.le_of_ble_eq_true rfl) rfl ?_
  show fhW fhYF Γ 61 [(1, .int (q4.1 3 8)), (0, .ref v0), (2, .int v2)] [.int q6] q5.2
  refine fhW.blk fhPF fhLL hΓ [(.istore_n 3, 0), (.iload_n 2, 0), (.iconst (-1), -1)] (pc' := 64) (lv' := [(3, .int q6), (1, .int (q4.1 3 8)), (0, .ref v0), (2, .int v2)]) (st' := [.int (-1 : Int32), .int v2]) (σ' := q5.2) (by decide +kernel) rfl rfl rfl ?_
  refine fhW.i_eq hΓ (tgt := 92) (show fhbk _ _ (.if_icmp .eq (28)) _ = true by decide +kernel) (fun hc => ?_) (fun hc => ?_)
  · rw [if_pos hc] at h
    refine fhW.sub (lv' := [(0, .ref v0), (1, .int (q4.1 3 8))]) [2, 1] rfl ?_
    exact L_X7_readBlind_92 hE hΓ hd v0 (q4.1 3 8) hv0 q5.2 _ h hk
  · rw [if_neg hc] at h
    refine fhW.blk fhPF fhLL hΓ [(.iload_n 3, 0), (.iconst (-1), -1)] (pc' := 69) (lv' := [(3, .int q6), (1, .int (q4.1 3 8)), (0, .ref v0), (2, .int v2)]) (st' := [.int (-1 : Int32), .int q6]) (σ' := q5.2) (by decide +kernel) rfl rfl rfl ?_
    refine fhW.i_eq hΓ (tgt := 92) (show fhbk _ _ (.if_icmp .eq (23)) _ = true by decide +kernel) (fun hc => ?_) (fun hc => ?_)
    · rw [if_pos hc] at h
      refine fhW.sub (lv' := [(0, .ref v0), (1, .int (q4.1 3 8))]) [2, 1] rfl ?_
      exact L_X7_readBlind_92 hE hΓ hd v0 (q4.1 3 8) hv0 q5.2 _ h hk
    · rw [if_neg hc] at h
      refine fhW.blk fhPF fhLL hΓ [(.iload_n 2, 0), (.iload_n 3, 0)] (pc' := 74) (lv' := [(3, .int q6), (1, .int (q4.1 3 8)), (0, .ref v0), (2, .int v2)]) (st' := [.int q6, .int v2]) (σ' := q5.2) (by decide +kernel) rfl rfl rfl ?_
      refine fhW.i_eq hΓ (tgt := 92) (show fhbk _ _ (.if_icmp .eq (18)) _ = true by decide +kernel) (fun hc => ?_) (fun hc => ?_)
      · rw [if_pos hc] at h
        refine fhW.sub (lv' := [(0, .ref v0), (1, .int (q4.1 3 8))]) [2, 1] rfl ?_
        exact L_X7_readBlind_92 hE hΓ hd v0 (q4.1 3 8) hv0 q5.2 _ h hk
      · rw [if_neg hc] at h
        refine fhW.blk fhPF fhLL hΓ [(.aload_n 0, 0), (.getfield 23, 0), (.iload_n 2, 0)] (pc' := 82) (lv' := [(3, .int q6), (1, .int (q4.1 3 8)), (0, .ref v0), (2, .int v2)]) (st' := [.int v2, .ref (v0 + 4)]) (σ' := q5.2) (by decide +kernel) rfl rfl (by rcases fhiP_or hv0 with rfl | rfl <;> rfl) ?_
        refine fhW.callv hΓ mvX2_get ml_7_156 (t := (v0 + 4)) (ci := 2) (av := [.int v2]) (rest := []) (r := (some (.int (fcG q5.2 (v0 + 4) v2)))) (σ' := q5.2) (T_X2_get (E := fhEn Γ) (d := fhD Γ - 1) hE (by omega) (v0 + 4) v2 (fhiP_ind (p := fun q => fhiC (q + 4) = true) hv0 rfl rfl) q5.2) (by omega) (by decide +kernel) rfl (fhiC_g (fhiP_ind (p := fun q => fhiC (q + 4) = true) hv0 rfl rfl)) rfl (Nat.le_of_ble_eq_true rfl) rfl ?_
        show fhW fhYF Γ 85 [(3, .int q6), (1, .int (q4.1 3 8)), (0, .ref v0), (2, .int v2)] [.int (fcG q5.2 (v0 + 4) v2)] q5.2
        refine fhW.blk fhPF fhLL hΓ [(.iload_n 3, 0), (.ishr, 0), (.iconst 1, 1), (.iand, 0)] (pc' := 89) (lv' := [(3, .int q6), (1, .int (q4.1 3 8)), (0, .ref v0), (2, .int v2)]) (st' := [.int (((fcG q5.2 (v0 + 4) v2) >>> (q6 &&& 31)) &&& (1 : Int32))]) (σ' := q5.2) (by decide +kernel) rfl rfl rfl ?_
        refine fhW.z_eq hΓ (tgt := 102) (show fhbk _ _ (.ifCond .eq (13)) _ = true by decide +kernel) (fun hc => ?_) (fun hc => ?_)
        · rw [if_pos hc] at h
          refine fhW.blk fhPF fhLL hΓ [(.aload_n 0, 0), (.getfield 23, 0), (.iload_n 2, 0), (.aload_n 0, 0), (.getfield 23, 0), (.iload_n 2, 0)] (pc' := 112) (lv' := [(3, .int q6), (1, .int (q4.1 3 8)), (0, .ref v0), (2, .int v2)]) (st' := [.int v2, .ref (v0 + 4), .int v2, .ref (v0 + 4)]) (σ' := q5.2) (by decide +kernel) rfl rfl (by rcases fhiP_or hv0 with rfl | rfl <;> rfl) ?_
          refine fhW.callv hΓ mvX2_get ml_7_156 (t := (v0 + 4)) (ci := 2) (av := [.int v2]) (rest := [.int v2, .ref (v0 + 4)]) (r := (some (.int (fcG q5.2 (v0 + 4) v2)))) (σ' := q5.2) (T_X2_get (E := fhEn Γ) (d := fhD Γ - 1) hE (by omega) (v0 + 4) v2 (fhiP_ind (p := fun q => fhiC (q + 4) = true) hv0 rfl rfl) q5.2) (by omega) (by decide +kernel) rfl (fhiC_g (fhiP_ind (p := fun q => fhiC (q + 4) = true) hv0 rfl rfl)) rfl (Nat.le_of_ble_eq_true rfl) rfl ?_
          show fhW fhYF Γ 115 [(3, .int q6), (1, .int (q4.1 3 8)), (0, .ref v0), (2, .int v2)] [.int (fcG q5.2 (v0 + 4) v2), .int v2, .ref (v0 + 4)] q5.2
          refine fhW.blk fhPF fhLL hΓ [(.iconst 1, 1), (.iload_n 3, 0), (.ishl, 0), (.ior, 0)] (pc' := 119) (lv' := [(3, .int q6), (1, .int (q4.1 3 8)), (0, .ref v0), (2, .int v2)]) (st' := [.int ((fcG q5.2 (v0 + 4) v2) ||| ((1 : Int32) <<< (q6 &&& 31))), .int v2, .ref (v0 + 4)]) (σ' := q5.2) (by decide +kernel) rfl rfl rfl ?_
          refine fhW.callv hΓ mvX2_put ml_7_143 (t := (v0 + 4)) (ci := 2) (av := [.int v2, .int ((fcG q5.2 (v0 + 4) v2) ||| ((1 : Int32) <<< (q6 &&& 31)))]) (rest := []) (r := none) (σ' := (fcP q5.2 (v0 + 4) v2 ((fcG q5.2 (v0 + 4) v2) ||| ((1 : Int32) <<< (q6 &&& 31))))) (T_X2_put (E := fhEn Γ) (d := fhD Γ - 1) hE (by omega) (v0 + 4) v2 ((fcG q5.2 (v0 + 4) v2) ||| ((1 : Int32) <<< (q6 &&& 31))) (fhiP_ind (p := fun q => fhiC (q + 4) = true) hv0 rfl rfl) q5.2) (by omega) (by decide +kernel) rfl (fhiC_g (fhiP_ind (p := fun q => fhiC (q + 4) = true) hv0 rfl rfl)) rfl (Nat.le_of_ble_eq_true rfl) rfl ?_
          show fhW fhYF Γ 122 [(3, .int q6), (1, .int (q4.1 3 8)), (0, .ref v0), (2, .int v2)] [] (fcP q5.2 (v0 + 4) v2 ((fcG q5.2 (v0 + 4) v2) ||| ((1 : Int32) <<< (q6 &&& 31))))
          have e9 := Option.some.inj h
          subst e9
          exact fhW.vret hΓ (by decide +kernel) hk
        · rw [if_neg hc] at h
          refine fhW.sub (lv' := [(0, .ref v0), (1, .int (q4.1 3 8))]) [2, 1] rfl ?_
          exact L_X7_readBlind_92 hE hΓ hd v0 (q4.1 3 8) hv0 q5.2 _ h hk
set_option maxRecDepth 100000 in
set_option maxHeartbeats 4000000 in
theorem L_X7_readBlind_E {Γ : fhX} (hE : fhEok fhYF (fhEn Γ)) (hΓ : fhOk fhYF 7 cX7_readBlind 4 none Γ) (hd : 3 ≤ fhD Γ) (v0 : Nat) (hv0 : fhiP v0 = true) (σ : fhM) (o : fhM) (h : f_X7_readBlind v0 σ = some o) (hk : (fun o => fhRet Γ none o) o) : fhW fhYF Γ 0 [(0, .ref v0)] [] σ := by
  unfold f_X7_readBlind at h
  refine fhW.blk fhPF fhLL hΓ [(.aload_n 0, 0), (.getfield 36, 0), (.getfield 134, 0), (.istore_n 1, 0), (.aload_n 0, 0), (.aload_n 0, 0)] (pc' := 10) (lv' := [(1, .int (σ.1 3 8)), (0, .ref v0)]) (st' := [.ref v0, .ref v0]) (σ' := σ) (by decide +kernel) rfl rfl (by rcases fhiP_or hv0 with rfl | rfl <;> rfl) ?_
  refine fhW.blk fhPF fhLL hΓ [(.getfield 36, 0)] (pc' := 13) (lv' := [(1, .int (σ.1 3 8)), (0, .ref v0)]) (st' := [.ref 3, .ref v0]) (σ' := σ) (by decide +kernel) rfl rfl (by rcases fhiP_or hv0 with rfl | rfl <;> rfl) ?_
  refine fhW.callv hΓ mvX8_takeName ml_7_146 (t := 3) (ci := 8) (av := []) (rest := [.ref v0]) (r := (some (.int (f_X8_takeName σ).1))) (σ' := (f_X8_takeName σ).2) (T_X8_takeName (E := fhEn Γ) (d := fhD Γ - 1) hE (by omega) σ) (by omega) (by decide +kernel) rfl rfl rfl (Nat.le_of_ble_eq_true rfl) rfl ?_
  show fhW fhYF Γ 16 [(1, .int (σ.1 3 8)), (0, .ref v0)] [.int (f_X8_takeName σ).1, .ref v0] (f_X8_takeName σ).2
  obtain ⟨q1, e4, h⟩ := fhlet_elim h
  rw [← e4]
  obtain ⟨q2, hb2, h⟩ := Option.bind_eq_some_iff.mp h
  refine fhW.callv hΓ mvX7_guestNamed ml_7_149 (t := v0) (ci := 7) (av := [.int q1.1]) (rest := []) (r := (some (.int q2))) (σ' := q1.2) (T_X7_guestNamed (E := fhEn Γ) (d := fhD Γ - 1) hE (by omega) v0 q1.1 hv0 q1.2 hb2) (by omega) (by decide +kernel) rfl (fhiP_g hv0) rfl (Nat.le_of_ble_eq_true rfl) rfl ?_
  show fhW fhYF Γ 19 [(1, .int (σ.1 3 8)), (0, .ref v0)] [.int q2] q1.2
  refine fhW.blk fhPF fhLL hΓ [(.istore_n 2, 0), (.iload_n 2, 0), (.iconst (-1), -1)] (pc' := 22) (lv' := [(2, .int q2), (1, .int (σ.1 3 8)), (0, .ref v0)]) (st' := [.int (-1 : Int32), .int q2]) (σ' := q1.2) (by decide +kernel) rfl rfl rfl ?_
  refine fhW.i_ne hΓ (tgt := 34) (show fhbk _ _ (.if_icmp .ne (12)) _ = true by decide +kernel) (fun hc => ?_) (fun hc => ?_)
  · rw [if_neg hc] at h
    refine fhW.sub (lv' := [(0, .ref v0), (2, .int q2)]) [2, 0] rfl ?_
    exact L_X7_readBlind_34 hE hΓ hd v0 q2 hv0 q1.2 _ h hk
  · rw [if_pos hc] at h
    refine fhW.blk fhPF fhLL hΓ [(.aload_n 0, 0), (.getfield 36, 0), (.iconst 3, 3), (.iload_n 1, 0)] (pc' := 31) (lv' := [(2, .int q2), (1, .int (σ.1 3 8)), (0, .ref v0)]) (st' := [.int (σ.1 3 8), .int (3 : Int32), .ref 3]) (σ' := q1.2) (by decide +kernel) rfl rfl (by rcases fhiP_or hv0 with rfl | rfl <;> rfl) ?_
    refine fhW.callv hΓ mvX8_fail ml_7_137 (t := 3) (ci := 8) (av := [.int (3 : Int32), .int (σ.1 3 8)]) (rest := []) (r := none) (σ' := (f_X8_fail (3 : Int32) (σ.1 3 8) q1.2)) (T_X8_fail (E := fhEn Γ) (d := fhD Γ - 1) hE (by omega) (3 : Int32) (σ.1 3 8) q1.2) (by omega) (by decide +kernel) rfl rfl rfl (Nat.le_of_ble_eq_true rfl) rfl ?_
    show fhW fhYF Γ 34 [(2, .int q2), (1, .int (σ.1 3 8)), (0, .ref v0)] [] (f_X8_fail (3 : Int32) (σ.1 3 8) q1.2)
    obtain ⟨q3, e5, h⟩ := fhlet_elim h
    rw [← e5]
    refine fhW.sub (lv' := [(0, .ref v0), (2, .int q2)]) [2, 0] rfl ?_
    exact L_X7_readBlind_34 hE hΓ hd v0 q2 hv0 q3 _ h hk
set_option maxRecDepth 100000 in
theorem T_X7_readBlind {E : fhE} {d : Nat} (hE : fhEok fhYF E) (hd : 3 ≤ d) (v0 : Nat) (hv0 : fhiP v0 = true) (σ : fhM) {o : fhM} (h : f_X7_readBlind v0 σ = some o) : fhC fhYF E d miX7_readBlind [.ref v0] σ none o := by
  refine fhC.of (y := yX7_readBlind) (cc := cX7_readBlind) (nL := 4) (ret := none) 7 rfl (by decide +kernel) (Nat.le_of_ble_eq_true rfl) ?_
  intro Γ hΓ hR hD hEn
  subst hD; subst hEn
  exact L_X7_readBlind_E hE hΓ hd v0 hv0 σ _ h hR
set_option maxRecDepth 100000 in
set_option maxHeartbeats 4000000 in
theorem L_X5_begin_E {Γ : fhX} (hE : fhEok fhYF (fhEn Γ)) (hΓ : fhOk fhYF 5 cX5_begin 4 none Γ) (hd : 0 ≤ fhD Γ) (v1 : Nat) (v2 : Nat) (v3 : Int32) (hv1 : fhiK v1 = true) (hv2 : fhiP v2 = true) (σ : fhM) (o : fhM) (h : f_X5_begin v1 v2 v3 σ = some o) (hk : (fun o => fhRet Γ none o) o) : fhW fhYF Γ 0 [(0, .ref 9), (1, .ref v1), (2, .ref v2), (3, .int v3)] [] σ := by
  unfold f_X5_begin at h
  obtain ⟨hg1, h⟩ := fhif h
  refine fhW.blk fhPF fhLL hΓ [(.aload_n 0, 0), (.aload_n 1, 0), (.putfield 15, 0), (.aload_n 0, 0), (.aload_n 2, 0), (.putfield 45, 0), (.aload_n 0, 0), (.iload_n 3, 0), (.putfield 49, 0), (.aload_n 0, 0), (.iconst 0, 0), (.putfield 53, 0)] (pc' := 20) (lv' := [(0, .ref 9), (1, .ref v1), (2, .ref v2), (3, .int v3)]) (st' := []) (σ' := (fhI (fhI (fhR (fhR σ 9 1 v1) 9 2 v2) 9 3 v3) 9 4 (0 : Int32))) (by decide +kernel) rfl rfl hg1 ?_
  have e9 := Option.some.inj h
  subst e9
  exact fhW.vret hΓ (by decide +kernel) hk
set_option maxRecDepth 100000 in
theorem T_X5_begin {E : fhE} {d : Nat} (hE : fhEok fhYF E) (hd : 0 ≤ d) (v1 : Nat) (v2 : Nat) (v3 : Int32) (hv1 : fhiK v1 = true) (hv2 : fhiP v2 = true) (σ : fhM) {o : fhM} (h : f_X5_begin v1 v2 v3 σ = some o) : fhC fhYF E d miX5_begin [.ref 9, .ref v1, .ref v2, .int v3] σ none o := by
  refine fhC.of (y := yX5_begin) (cc := cX5_begin) (nL := 4) (ret := none) 5 rfl (by decide +kernel) (Nat.le_of_ble_eq_true rfl) ?_
  intro Γ hΓ hR hD hEn
  subst hD; subst hEn
  exact L_X5_begin_E hE hΓ hd v1 v2 v3 hv1 hv2 σ _ h hR
set_option maxRecDepth 100000 in
set_option maxHeartbeats 4000000 in
theorem L_X7_noteTest_E {Γ : fhX} (hE : fhEok fhYF (fhEn Γ)) (hΓ : fhOk fhYF 7 cX7_noteTest 3 none Γ) (hd : 1 ≤ fhD Γ) (v0 : Nat) (v1 : Int32) (v2 : Int32) (hv0 : fhiP v0 = true) (σ : fhM) (o : fhM) (h : f_X7_noteTest v0 v1 v2 σ = o) (hk : (fun o => fhRet Γ none o) o) : fhW fhYF Γ 0 [(0, .ref v0), (1, .int v1), (2, .int v2)] [] σ := by
  unfold f_X7_noteTest at h
  refine fhW.blk fhPF fhLL hΓ [(.iload_n 1, 0), (.iconst 5, 5)] (pc' := 2) (lv' := [(0, .ref v0), (1, .int v1), (2, .int v2)]) (st' := [.int (5 : Int32), .int v1]) (σ' := σ) (by decide +kernel) rfl rfl rfl ?_
  refine fhW.i_ne hΓ (tgt := 54) (show fhbk _ _ (.if_icmp .ne (52)) _ = true by decide +kernel) (fun hc => ?_) (fun hc => ?_)
  · rw [if_neg hc] at h
    refine fhW.blk fhPF fhLL hΓ [(.aload_n 0, 0), (.getfield 30, 0), (.iconst 2, 2), (.aload_n 0, 0), (.getfield 85, 0), (.imul, 0)] (pc' := 64) (lv' := [(0, .ref v0), (1, .int v1), (2, .int v2)]) (st' := [.int ((2 : Int32) * (σ.1 v0 12)), .ref (v0 + 8)]) (σ' := σ) (by decide +kernel) rfl rfl (by rcases fhiP_or hv0 with rfl | rfl <;> rfl) ?_
    refine fhW.blk fhPF fhLL hΓ [(.iload_n 2, 0)] (pc' := 65) (lv' := [(0, .ref v0), (1, .int v1), (2, .int v2)]) (st' := [.int v2, .int ((2 : Int32) * (σ.1 v0 12)), .ref (v0 + 8)]) (σ' := σ) (by decide +kernel) rfl rfl rfl ?_
    refine fhW.callv hΓ mvX2_put ml_7_143 (t := (v0 + 8)) (ci := 2) (av := [.int ((2 : Int32) * (σ.1 v0 12)), .int v2]) (rest := []) (r := none) (σ' := (fcP σ (v0 + 8) ((2 : Int32) * (σ.1 v0 12)) v2)) (T_X2_put (E := fhEn Γ) (d := fhD Γ - 1) hE (by omega) (v0 + 8) ((2 : Int32) * (σ.1 v0 12)) v2 (fhiP_ind (p := fun q => fhiC (q + 8) = true) hv0 rfl rfl) σ) (by omega) (by decide +kernel) rfl (fhiC_g (fhiP_ind (p := fun q => fhiC (q + 8) = true) hv0 rfl rfl)) rfl (Nat.le_of_ble_eq_true rfl) rfl ?_
    show fhW fhYF Γ 68 [(0, .ref v0), (1, .int v1), (2, .int v2)] [] (fcP σ (v0 + 8) ((2 : Int32) * (σ.1 v0 12)) v2)
    refine fhW.blk fhPF fhLL hΓ [(.aload_n 0, 0), (.getfield 30, 0), (.iconst 2, 2), (.aload_n 0, 0), (.getfield 85, 0), (.imul, 0)] (pc' := 78) (lv' := [(0, .ref v0), (1, .int v1), (2, .int v2)]) (st' := [.int ((2 : Int32) * ((fcP σ (v0 + 8) ((2 : Int32) * (σ.1 v0 12)) v2).1 v0 12)), .ref (v0 + 8)]) (σ' := (fcP σ (v0 + 8) ((2 : Int32) * (σ.1 v0 12)) v2)) (by decide +kernel) rfl rfl (by rcases fhiP_or hv0 with rfl | rfl <;> rfl) ?_
    refine fhW.blk fhPF fhLL hΓ [(.iconst 1, 1), (.iadd, 0), (.aload_n 0, 0), (.getfield 12, 0), (.getfield 94, 0)] (pc' := 87) (lv' := [(0, .ref v0), (1, .int v1), (2, .int v2)]) (st' := [.int ((fcP σ (v0 + 8) ((2 : Int32) * (σ.1 v0 12)) v2).1 (v0 + 1) 1), .int (((2 : Int32) * ((fcP σ (v0 + 8) ((2 : Int32) * (σ.1 v0 12)) v2).1 v0 12)) + (1 : Int32)), .ref (v0 + 8)]) (σ' := (fcP σ (v0 + 8) ((2 : Int32) * (σ.1 v0 12)) v2)) (by decide +kernel) rfl rfl (by rcases fhiP_or hv0 with rfl | rfl <;> rfl) ?_
    refine fhW.callv hΓ mvX2_put ml_7_143 (t := (v0 + 8)) (ci := 2) (av := [.int (((2 : Int32) * ((fcP σ (v0 + 8) ((2 : Int32) * (σ.1 v0 12)) v2).1 v0 12)) + (1 : Int32)), .int ((fcP σ (v0 + 8) ((2 : Int32) * (σ.1 v0 12)) v2).1 (v0 + 1) 1)]) (rest := []) (r := none) (σ' := (fcP (fcP σ (v0 + 8) ((2 : Int32) * (σ.1 v0 12)) v2) (v0 + 8) (((2 : Int32) * ((fcP σ (v0 + 8) ((2 : Int32) * (σ.1 v0 12)) v2).1 v0 12)) + (1 : Int32)) ((fcP σ (v0 + 8) ((2 : Int32) * (σ.1 v0 12)) v2).1 (v0 + 1) 1))) (T_X2_put (E := fhEn Γ) (d := fhD Γ - 1) hE (by omega) (v0 + 8) (((2 : Int32) * ((fcP σ (v0 + 8) ((2 : Int32) * (σ.1 v0 12)) v2).1 v0 12)) + (1 : Int32)) ((fcP σ (v0 + 8) ((2 : Int32) * (σ.1 v0 12)) v2).1 (v0 + 1) 1) (fhiP_ind (p := fun q => fhiC (q + 8) = true) hv0 rfl rfl) (fcP σ (v0 + 8) ((2 : Int32) * (σ.1 v0 12)) v2)) (by omega) (by decide +kernel) rfl (fhiC_g (fhiP_ind (p := fun q => fhiC (q + 8) = true) hv0 rfl rfl)) rfl (Nat.le_of_ble_eq_true rfl) rfl ?_
    show fhW fhYF Γ 90 [(0, .ref v0), (1, .int v1), (2, .int v2)] [] (fcP (fcP σ (v0 + 8) ((2 : Int32) * (σ.1 v0 12)) v2) (v0 + 8) (((2 : Int32) * ((fcP σ (v0 + 8) ((2 : Int32) * (σ.1 v0 12)) v2).1 v0 12)) + (1 : Int32)) ((fcP σ (v0 + 8) ((2 : Int32) * (σ.1 v0 12)) v2).1 (v0 + 1) 1))
    refine fhW.blk fhPF fhLL hΓ [(.aload_n 0, 0), (.dup, 0), (.getfield 85, 0), (.iconst 1, 1), (.iadd, 0), (.putfield 85, 0)] (pc' := 100) (lv' := [(0, .ref v0), (1, .int v1), (2, .int v2)]) (st' := []) (σ' := (fhI (fcP (fcP σ (v0 + 8) ((2 : Int32) * (σ.1 v0 12)) v2) (v0 + 8) (((2 : Int32) * ((fcP σ (v0 + 8) ((2 : Int32) * (σ.1 v0 12)) v2).1 v0 12)) + (1 : Int32)) ((fcP σ (v0 + 8) ((2 : Int32) * (σ.1 v0 12)) v2).1 (v0 + 1) 1)) v0 12 (((fcP (fcP σ (v0 + 8) ((2 : Int32) * (σ.1 v0 12)) v2) (v0 + 8) (((2 : Int32) * ((fcP σ (v0 + 8) ((2 : Int32) * (σ.1 v0 12)) v2).1 v0 12)) + (1 : Int32)) ((fcP σ (v0 + 8) ((2 : Int32) * (σ.1 v0 12)) v2).1 (v0 + 1) 1)).1 v0 12) + (1 : Int32)))) (by decide +kernel) rfl rfl (by rcases fhiP_or hv0 with rfl | rfl <;> rfl) ?_
    subst h
    exact fhW.vret hΓ (by decide +kernel) hk
  · rw [if_pos hc] at h
    refine fhW.blk fhPF fhLL hΓ [(.aload_n 0, 0), (.getfield 27, 0), (.iconst 2, 2), (.aload_n 0, 0), (.getfield 82, 0), (.imul, 0)] (pc' := 15) (lv' := [(0, .ref v0), (1, .int v1), (2, .int v2)]) (st' := [.int ((2 : Int32) * (σ.1 v0 11)), .ref (v0 + 6)]) (σ' := σ) (by decide +kernel) rfl rfl (by rcases fhiP_or hv0 with rfl | rfl <;> rfl) ?_
    refine fhW.blk fhPF fhLL hΓ [(.iload_n 2, 0)] (pc' := 16) (lv' := [(0, .ref v0), (1, .int v1), (2, .int v2)]) (st' := [.int v2, .int ((2 : Int32) * (σ.1 v0 11)), .ref (v0 + 6)]) (σ' := σ) (by decide +kernel) rfl rfl rfl ?_
    refine fhW.callv hΓ mvX2_put ml_7_143 (t := (v0 + 6)) (ci := 2) (av := [.int ((2 : Int32) * (σ.1 v0 11)), .int v2]) (rest := []) (r := none) (σ' := (fcP σ (v0 + 6) ((2 : Int32) * (σ.1 v0 11)) v2)) (T_X2_put (E := fhEn Γ) (d := fhD Γ - 1) hE (by omega) (v0 + 6) ((2 : Int32) * (σ.1 v0 11)) v2 (fhiP_ind (p := fun q => fhiC (q + 6) = true) hv0 rfl rfl) σ) (by omega) (by decide +kernel) rfl (fhiC_g (fhiP_ind (p := fun q => fhiC (q + 6) = true) hv0 rfl rfl)) rfl (Nat.le_of_ble_eq_true rfl) rfl ?_
    show fhW fhYF Γ 19 [(0, .ref v0), (1, .int v1), (2, .int v2)] [] (fcP σ (v0 + 6) ((2 : Int32) * (σ.1 v0 11)) v2)
    refine fhW.blk fhPF fhLL hΓ [(.aload_n 0, 0), (.getfield 27, 0), (.iconst 2, 2), (.aload_n 0, 0), (.getfield 82, 0), (.imul, 0)] (pc' := 29) (lv' := [(0, .ref v0), (1, .int v1), (2, .int v2)]) (st' := [.int ((2 : Int32) * ((fcP σ (v0 + 6) ((2 : Int32) * (σ.1 v0 11)) v2).1 v0 11)), .ref (v0 + 6)]) (σ' := (fcP σ (v0 + 6) ((2 : Int32) * (σ.1 v0 11)) v2)) (by decide +kernel) rfl rfl (by rcases fhiP_or hv0 with rfl | rfl <;> rfl) ?_
    refine fhW.blk fhPF fhLL hΓ [(.iconst 1, 1), (.iadd, 0), (.aload_n 0, 0), (.getfield 12, 0), (.getfield 94, 0)] (pc' := 38) (lv' := [(0, .ref v0), (1, .int v1), (2, .int v2)]) (st' := [.int ((fcP σ (v0 + 6) ((2 : Int32) * (σ.1 v0 11)) v2).1 (v0 + 1) 1), .int (((2 : Int32) * ((fcP σ (v0 + 6) ((2 : Int32) * (σ.1 v0 11)) v2).1 v0 11)) + (1 : Int32)), .ref (v0 + 6)]) (σ' := (fcP σ (v0 + 6) ((2 : Int32) * (σ.1 v0 11)) v2)) (by decide +kernel) rfl rfl (by rcases fhiP_or hv0 with rfl | rfl <;> rfl) ?_
    refine fhW.callv hΓ mvX2_put ml_7_143 (t := (v0 + 6)) (ci := 2) (av := [.int (((2 : Int32) * ((fcP σ (v0 + 6) ((2 : Int32) * (σ.1 v0 11)) v2).1 v0 11)) + (1 : Int32)), .int ((fcP σ (v0 + 6) ((2 : Int32) * (σ.1 v0 11)) v2).1 (v0 + 1) 1)]) (rest := []) (r := none) (σ' := (fcP (fcP σ (v0 + 6) ((2 : Int32) * (σ.1 v0 11)) v2) (v0 + 6) (((2 : Int32) * ((fcP σ (v0 + 6) ((2 : Int32) * (σ.1 v0 11)) v2).1 v0 11)) + (1 : Int32)) ((fcP σ (v0 + 6) ((2 : Int32) * (σ.1 v0 11)) v2).1 (v0 + 1) 1))) (T_X2_put (E := fhEn Γ) (d := fhD Γ - 1) hE (by omega) (v0 + 6) (((2 : Int32) * ((fcP σ (v0 + 6) ((2 : Int32) * (σ.1 v0 11)) v2).1 v0 11)) + (1 : Int32)) ((fcP σ (v0 + 6) ((2 : Int32) * (σ.1 v0 11)) v2).1 (v0 + 1) 1) (fhiP_ind (p := fun q => fhiC (q + 6) = true) hv0 rfl rfl) (fcP σ (v0 + 6) ((2 : Int32) * (σ.1 v0 11)) v2)) (by omega) (by decide +kernel) rfl (fhiC_g (fhiP_ind (p := fun q => fhiC (q + 6) = true) hv0 rfl rfl)) rfl (Nat.le_of_ble_eq_true rfl) rfl ?_
    show fhW fhYF Γ 41 [(0, .ref v0), (1, .int v1), (2, .int v2)] [] (fcP (fcP σ (v0 + 6) ((2 : Int32) * (σ.1 v0 11)) v2) (v0 + 6) (((2 : Int32) * ((fcP σ (v0 + 6) ((2 : Int32) * (σ.1 v0 11)) v2).1 v0 11)) + (1 : Int32)) ((fcP σ (v0 + 6) ((2 : Int32) * (σ.1 v0 11)) v2).1 (v0 + 1) 1))
    refine fhW.blk fhPF fhLL hΓ [(.aload_n 0, 0), (.dup, 0), (.getfield 82, 0), (.iconst 1, 1), (.iadd, 0), (.putfield 82, 0)] (pc' := 51) (lv' := [(0, .ref v0), (1, .int v1), (2, .int v2)]) (st' := []) (σ' := (fhI (fcP (fcP σ (v0 + 6) ((2 : Int32) * (σ.1 v0 11)) v2) (v0 + 6) (((2 : Int32) * ((fcP σ (v0 + 6) ((2 : Int32) * (σ.1 v0 11)) v2).1 v0 11)) + (1 : Int32)) ((fcP σ (v0 + 6) ((2 : Int32) * (σ.1 v0 11)) v2).1 (v0 + 1) 1)) v0 11 (((fcP (fcP σ (v0 + 6) ((2 : Int32) * (σ.1 v0 11)) v2) (v0 + 6) (((2 : Int32) * ((fcP σ (v0 + 6) ((2 : Int32) * (σ.1 v0 11)) v2).1 v0 11)) + (1 : Int32)) ((fcP σ (v0 + 6) ((2 : Int32) * (σ.1 v0 11)) v2).1 (v0 + 1) 1)).1 v0 11) + (1 : Int32)))) (by decide +kernel) rfl rfl (by rcases fhiP_or hv0 with rfl | rfl <;> rfl) ?_
    refine fhW.goto hΓ (off := 49) (tgt := 100) (by decide +kernel) ?_
    subst h
    exact fhW.vret hΓ (by decide +kernel) hk
set_option maxRecDepth 100000 in
theorem T_X7_noteTest {E : fhE} {d : Nat} (hE : fhEok fhYF E) (hd : 1 ≤ d) (v0 : Nat) (v1 : Int32) (v2 : Int32) (hv0 : fhiP v0 = true) (σ : fhM) : fhC fhYF E d miX7_noteTest [.ref v0, .int v1, .int v2] σ none (f_X7_noteTest v0 v1 v2 σ) := by
  refine fhC.of (y := yX7_noteTest) (cc := cX7_noteTest) (nL := 3) (ret := none) 7 rfl (by decide +kernel) (Nat.le_of_ble_eq_true rfl) ?_
  intro Γ hΓ hR hD hEn
  subst hD; subst hEn
  exact L_X7_noteTest_E hE hΓ hd v0 v1 v2 hv0 σ _ rfl hR
set_option maxRecDepth 100000 in
set_option maxHeartbeats 4000000 in
theorem L_X8_isSign_E {Γ : fhX} (hE : fhEok fhYF (fhEn Γ)) (hΓ : fhOk fhYF 8 cX8_isSign 2 (some .boolean) Γ) (hd : 0 ≤ fhD Γ) (v1 : Int32)  (σ : fhM) (o : Bool) (h : f_X8_isSign v1 σ = o) (hk : (fun o => fhRet Γ (some (.int (fhb o))) σ) o) : fhW fhYF Γ 0 [(0, .ref 3), (1, .int v1)] [] σ := by
  unfold f_X8_isSign at h
  refine fhW.blk fhPF fhLL hΓ [(.aload_n 0, 0), (.getfield 75, 0), (.iconst 3, 3)] (pc' := 5) (lv' := [(0, .ref 3), (1, .int v1)]) (st' := [.int (3 : Int32), .int (σ.1 3 4)]) (σ' := σ) (by decide +kernel) rfl rfl rfl ?_
  refine fhW.i_ne hΓ (tgt := 20) (show fhbk _ _ (.if_icmp .ne (15)) _ = true by decide +kernel) (fun hc => ?_) (fun hc => ?_)
  · rw [if_neg hc] at h
    refine fhW.blk fhPF fhLL hΓ [(.iconst 0, 0)] (pc' := 21) (lv' := [(0, .ref 3), (1, .int v1)]) (st' := [.int (0 : Int32)]) (σ' := σ) (by decide +kernel) rfl rfl rfl ?_
    subst h
    exact fhW.zret (v := false) hΓ (by decide +kernel) hk
  · rw [if_pos hc] at h
    refine fhW.blk fhPF fhLL hΓ [(.aload_n 0, 0), (.getfield 87, 0), (.iload_n 1, 0)] (pc' := 13) (lv' := [(0, .ref 3), (1, .int v1)]) (st' := [.int v1, .int (σ.1 3 6)]) (σ' := σ) (by decide +kernel) rfl rfl rfl ?_
    refine fhW.i_ne hΓ (tgt := 20) (show fhbk _ _ (.if_icmp .ne (7)) _ = true by decide +kernel) (fun hc => ?_) (fun hc => ?_)
    · rw [if_neg hc] at h
      refine fhW.blk fhPF fhLL hΓ [(.iconst 0, 0)] (pc' := 21) (lv' := [(0, .ref 3), (1, .int v1)]) (st' := [.int (0 : Int32)]) (σ' := σ) (by decide +kernel) rfl rfl rfl ?_
      subst h
      exact fhW.zret (v := false) hΓ (by decide +kernel) hk
    · rw [if_pos hc] at h
      refine fhW.blk fhPF fhLL hΓ [(.iconst 1, 1)] (pc' := 17) (lv' := [(0, .ref 3), (1, .int v1)]) (st' := [.int (1 : Int32)]) (σ' := σ) (by decide +kernel) rfl rfl rfl ?_
      refine fhW.goto hΓ (off := 4) (tgt := 21) (by decide +kernel) ?_
      subst h
      exact fhW.zret (v := true) hΓ (by decide +kernel) hk
set_option maxRecDepth 100000 in
theorem T_X8_isSign {E : fhE} {d : Nat} (hE : fhEok fhYF E) (hd : 0 ≤ d) (v1 : Int32)  (σ : fhM) : fhC fhYF E d miX8_isSign [.ref 3, .int v1] σ (some (.int (fhb (f_X8_isSign v1 σ)))) σ := by
  refine fhC.of (y := yX8_isSign) (cc := cX8_isSign) (nL := 2) (ret := (some .boolean)) 8 rfl (by decide +kernel) (Nat.le_of_ble_eq_true rfl) ?_
  intro Γ hΓ hR hD hEn
  subst hD; subst hEn
  exact L_X8_isSign_E hE hΓ hd v1  σ _ rfl hR
set_option maxRecDepth 100000 in
set_option maxHeartbeats 4000000 in
theorem L_X8_takeSign_12 {Γ : fhX} (hE : fhEok fhYF (fhEn Γ)) (hΓ : fhOk fhYF 8 cX8_takeSign 2 none Γ) (hd : 2 ≤ fhD Γ)   (σ : fhM) (o : fhM) (h : f_X8_takeSign_12 σ = o) (hk : (fun o => fhRet Γ none o) o) : fhW fhYF Γ 12 [(0, .ref 3)] [] σ := by
  unfold f_X8_takeSign_12 at h
  refine fhW.blk fhPF fhLL hΓ [(.aload_n 0, 0)] (pc' := 13) (lv' := [(0, .ref 3)]) (st' := [.ref 3]) (σ' := σ) (by decide +kernel) rfl rfl rfl ?_
  refine fhW.callv hΓ mvX8_advance ml_8_44 (t := 3) (ci := 8) (av := []) (rest := []) (r := none) (σ' := (f_X8_advance σ)) (T_X8_advance (E := fhEn Γ) (d := fhD Γ - 1) hE (by omega) σ) (by omega) (by decide +kernel) rfl rfl rfl (Nat.le_of_ble_eq_true rfl) rfl ?_
  show fhW fhYF Γ 16 [(0, .ref 3)] [] (f_X8_advance σ)
  obtain ⟨q2, e1, h⟩ := fhlet_elim h
  rw [← e1]
  subst h
  exact fhW.vret hΓ (by decide +kernel) hk
set_option maxRecDepth 100000 in
set_option maxHeartbeats 4000000 in
theorem L_X8_takeSign_E {Γ : fhX} (hE : fhEok fhYF (fhEn Γ)) (hΓ : fhOk fhYF 8 cX8_takeSign 2 none Γ) (hd : 2 ≤ fhD Γ) (v1 : Int32)  (σ : fhM) (o : fhM) (h : f_X8_takeSign v1 σ = o) (hk : (fun o => fhRet Γ none o) o) : fhW fhYF Γ 0 [(0, .ref 3), (1, .int v1)] [] σ := by
  unfold f_X8_takeSign at h
  refine fhW.blk fhPF fhLL hΓ [(.aload_n 0, 0), (.iload_n 1, 0)] (pc' := 2) (lv' := [(0, .ref 3), (1, .int v1)]) (st' := [.int v1, .ref 3]) (σ' := σ) (by decide +kernel) rfl rfl rfl ?_
  refine fhW.callv hΓ mvX8_isSign ml_8_100 (t := 3) (ci := 8) (av := [.int v1]) (rest := []) (r := (some (.int (fhb (f_X8_isSign v1 σ))))) (σ' := σ) (T_X8_isSign (E := fhEn Γ) (d := fhD Γ - 1) hE (by omega) v1 σ) (by omega) (by decide +kernel) rfl rfl rfl (Nat.le_of_ble_eq_true rfl) rfl ?_
  show fhW fhYF Γ 5 [(0, .ref 3), (1, .int v1)] [.int (fhb (f_X8_isSign v1 σ))] σ
  refine fhW.b_ne hΓ (tgt := 12) (show fhbk _ _ (.ifCond .ne (7)) _ = true by decide +kernel) (fun hc => ?_) (fun hc => ?_)
  · rw [if_pos hc] at h
    refine fhW.sub (lv' := [(0, .ref 3)]) [0] rfl ?_
    exact L_X8_takeSign_12 hE hΓ hd σ _ h hk
  · rw [if_neg hc] at h
    refine fhW.blk fhPF fhLL hΓ [(.aload_n 0, 0)] (pc' := 9) (lv' := [(0, .ref 3), (1, .int v1)]) (st' := [.ref 3]) (σ' := σ) (by decide +kernel) rfl rfl rfl ?_
    refine fhW.callv hΓ mvX8_failHere ml_8_97 (t := 3) (ci := 8) (av := []) (rest := []) (r := none) (σ' := (f_X8_failHere σ)) (T_X8_failHere (E := fhEn Γ) (d := fhD Γ - 1) hE (by omega) σ) (by omega) (by decide +kernel) rfl rfl rfl (Nat.le_of_ble_eq_true rfl) rfl ?_
    show fhW fhYF Γ 12 [(0, .ref 3), (1, .int v1)] [] (f_X8_failHere σ)
    obtain ⟨q1, e2, h⟩ := fhlet_elim h
    rw [← e2]
    refine fhW.sub (lv' := [(0, .ref 3)]) [0] rfl ?_
    exact L_X8_takeSign_12 hE hΓ hd q1 _ h hk
set_option maxRecDepth 100000 in
theorem T_X8_takeSign {E : fhE} {d : Nat} (hE : fhEok fhYF E) (hd : 2 ≤ d) (v1 : Int32)  (σ : fhM) : fhC fhYF E d miX8_takeSign [.ref 3, .int v1] σ none (f_X8_takeSign v1 σ) := by
  refine fhC.of (y := yX8_takeSign) (cc := cX8_takeSign) (nL := 2) (ret := none) 8 rfl (by decide +kernel) (Nat.le_of_ble_eq_true rfl) ?_
  intro Γ hΓ hR hD hEn
  subst hD; subst hEn
  exact L_X8_takeSign_E hE hΓ hd v1  σ _ rfl hR

