set_option maxRecDepth 100000 in
set_option maxHeartbeats 4000000 in
theorem L_X4_knowsOf_65 {Γ : fhX} (hE : fhEok fhYF (fhEn Γ)) (hΓ : fhOk fhYF 4 cX4_knowsOf 8 (some .int) Γ) (hd : 3 ≤ fhD Γ) (v1 : Int32) (v2 : Int32) (v3 : Int32) (v4 : Int32) (v5 : Int32)  (σ : fhM) (o : (Int32 × Int32 × Int32) ⊕ (Int32)) (h : f_X4_knowsOf_65 v1 v2 v3 v4 v5 σ = some o) (hk : (fhK (fun x => fhW fhYF Γ 8 [(0, .ref 56), (1, .int v1), (2, .int v2), (3, .int x.1), (4, .int x.2.1), (5, .int x.2.2)] [] σ) (fun o => fhRet Γ (some (.int o)) σ)) o) : fhW fhYF Γ 65 [(0, .ref 56), (1, .int v1), (2, .int v2), (3, .int v3), (4, .int v4), (5, .int v5)] [] σ := by
  unfold f_X4_knowsOf_65 at h
  refine fhW.blk fhPF fhLL hΓ [(.iinc 5 1, 1)] (pc' := 68) (lv' := [(5, .int (v5 + (1 : Int32))), (0, .ref 56), (1, .int v1), (2, .int v2), (3, .int v3), (4, .int v4)]) (st' := []) (σ' := σ) (by decide +kernel) rfl rfl rfl ?_
  refine fhW.goto hΓ (off := (-60)) (tgt := 8) (by decide +kernel) ?_
  refine fhW.sub (lv' := [(0, .ref 56), (1, .int v1), (2, .int v2), (3, .int v3), (4, .int v4), (5, .int (v5 + (1 : Int32)))]) [1, 2, 3, 4, 5, 0] rfl ?_
  have e9 := Option.some.inj h
  subst e9
  exact hk
set_option maxRecDepth 100000 in
set_option maxHeartbeats 4000000 in
theorem L_X4_knowsOf_8 {Γ : fhX} (hE : fhEok fhYF (fhEn Γ)) (hΓ : fhOk fhYF 4 cX4_knowsOf 8 (some .int) Γ) (hd : 3 ≤ fhD Γ) (v1 : Int32) (v2 : Int32) (v3 : Int32) (v4 : Int32) (v5 : Int32)  (σ : fhM) (o : (Int32 × Int32 × Int32) ⊕ (Int32)) (h : f_X4_knowsOf_8 v1 v2 v3 v4 v5 σ = some o) (hk : (fhK (fun x => fhW fhYF Γ 8 [(0, .ref 56), (1, .int v1), (2, .int v2), (3, .int x.1), (4, .int x.2.1), (5, .int x.2.2)] [] σ) (fun o => fhRet Γ (some (.int o)) σ)) o) : fhW fhYF Γ 8 [(0, .ref 56), (1, .int v1), (2, .int v2), (3, .int v3), (4, .int v4), (5, .int v5)] [] σ := by
  unfold f_X4_knowsOf_8 at h
  refine fhW.blk fhPF fhLL hΓ [(.iload 5, 0), (.aload_n 0, 0), (.getfield 63, 0)] (pc' := 14) (lv' := [(0, .ref 56), (1, .int v1), (2, .int v2), (3, .int v3), (4, .int v4), (5, .int v5)]) (st' := [.int (σ.1 56 8), .int v5]) (σ' := σ) (by decide +kernel) rfl rfl rfl ?_
  refine fhW.i_ge hΓ (tgt := 71) (show fhbk _ _ (.if_icmp .ge (57)) _ = true by decide +kernel) (fun hc => ?_) (fun hc => ?_)
  · rw [if_pos hc] at h
    refine fhW.blk fhPF fhLL hΓ [(.iload_n 3, 0), (.iconst 1, 1)] (pc' := 73) (lv' := [(0, .ref 56), (1, .int v1), (2, .int v2), (3, .int v3), (4, .int v4), (5, .int v5)]) (st' := [.int (1 : Int32), .int v3]) (σ' := σ) (by decide +kernel) rfl rfl rfl ?_
    refine fhW.i_ne hΓ (tgt := 78) (show fhbk _ _ (.if_icmp .ne (5)) _ = true by decide +kernel) (fun hc => ?_) (fun hc => ?_)
    · rw [if_neg hc] at h
      refine fhW.blk fhPF fhLL hΓ [(.iload 4, 0)] (pc' := 80) (lv' := [(0, .ref 56), (1, .int v1), (2, .int v2), (3, .int v3), (4, .int v4), (5, .int v5)]) (st' := [.int v4]) (σ' := σ) (by decide +kernel) rfl rfl rfl ?_
      refine fhW.z_ne hΓ (tgt := 87) (show fhbk _ _ (.ifCond .ne (7)) _ = true by decide +kernel) (fun hc => ?_) (fun hc => ?_)
      · rw [if_neg hc] at h
        refine fhW.blk fhPF fhLL hΓ [(.iconst 0, 0)] (pc' := 88) (lv' := [(0, .ref 56), (1, .int v1), (2, .int v2), (3, .int v3), (4, .int v4), (5, .int v5)]) (st' := [.int (0 : Int32)]) (σ' := σ) (by decide +kernel) rfl rfl rfl ?_
        have e9 := Option.some.inj h
        subst e9
        exact fhW.iret hΓ (by decide +kernel) hk
      · rw [if_pos hc] at h
        refine fhW.blk fhPF fhLL hΓ [(.iconst 2, 2)] (pc' := 84) (lv' := [(0, .ref 56), (1, .int v1), (2, .int v2), (3, .int v3), (4, .int v4), (5, .int v5)]) (st' := [.int (2 : Int32)]) (σ' := σ) (by decide +kernel) rfl rfl rfl ?_
        refine fhW.goto hΓ (off := 4) (tgt := 88) (by decide +kernel) ?_
        have e9 := Option.some.inj h
        subst e9
        exact fhW.iret hΓ (by decide +kernel) hk
    · rw [if_pos hc] at h
      refine fhW.blk fhPF fhLL hΓ [(.iconst 1, 1)] (pc' := 77) (lv' := [(0, .ref 56), (1, .int v1), (2, .int v2), (3, .int v3), (4, .int v4), (5, .int v5)]) (st' := [.int (1 : Int32)]) (σ' := σ) (by decide +kernel) rfl rfl rfl ?_
      have e9 := Option.some.inj h
      subst e9
      exact fhW.iret hΓ (by decide +kernel) hk
  · rw [if_neg hc] at h
    refine fhW.blk fhPF fhLL hΓ [(.aload_n 0, 0), (.getfield 36, 0), (.iload 5, 0)] (pc' := 23) (lv' := [(0, .ref 56), (1, .int v1), (2, .int v2), (3, .int v3), (4, .int v4), (5, .int v5)]) (st' := [.int v5, .ref 72]) (σ' := σ) (by decide +kernel) rfl rfl rfl ?_
    refine fhW.callv hΓ mvX2_get ml_4_55 (t := 72) (ci := 2) (av := [.int v5]) (rest := []) (r := (some (.int (fcG σ 72 v5)))) (σ' := σ) (T_X2_get (E := fhEn Γ) (d := fhD Γ - 1) hE (by omega) 72 v5 rfl σ) (by omega) (by decide +kernel) rfl rfl rfl (Nat.le_of_ble_eq_true rfl) rfl ?_
    show fhW fhYF Γ 26 [(0, .ref 56), (1, .int v1), (2, .int v2), (3, .int v3), (4, .int v4), (5, .int v5)] [.int (fcG σ 72 v5)] σ
    refine fhW.blk fhPF fhLL hΓ [(.istore 6, 0), (.aload_n 0, 0), (.iload_n 1, 0), (.iload 6, 0)] (pc' := 32) (lv' := [(6, .int (fcG σ 72 v5)), (0, .ref 56), (1, .int v1), (2, .int v2), (3, .int v3), (4, .int v4), (5, .int v5)]) (st' := [.int (fcG σ 72 v5), .int v1, .ref 56]) (σ' := σ) (by decide +kernel) rfl rfl rfl ?_
    refine fhW.callv hΓ mvX4_isRowOf ml_4_90 (t := 56) (ci := 4) (av := [.int v1, .int (fcG σ 72 v5)]) (rest := []) (r := (some (.int (fhb (f_X4_isRowOf v1 (fcG σ 72 v5) σ))))) (σ' := σ) (T_X4_isRowOf (E := fhEn Γ) (d := fhD Γ - 1) hE (by omega) v1 (fcG σ 72 v5) σ) (by omega) (by decide +kernel) rfl rfl rfl (Nat.le_of_ble_eq_true rfl) rfl ?_
    show fhW fhYF Γ 35 [(6, .int (fcG σ 72 v5)), (0, .ref 56), (1, .int v1), (2, .int v2), (3, .int v3), (4, .int v4), (5, .int v5)] [.int (fhb (f_X4_isRowOf v1 (fcG σ 72 v5) σ))] σ
    refine fhW.b_eq hΓ (tgt := 65) (show fhbk _ _ (.ifCond .eq (30)) _ = true by decide +kernel) (fun hc => ?_) (fun hc => ?_)
    · rw [if_neg hc] at h
      refine fhW.sub (lv' := [(0, .ref 56), (1, .int v1), (2, .int v2), (3, .int v3), (4, .int v4), (5, .int v5)]) [1, 2, 3, 4, 5, 6] rfl ?_
      exact L_X4_knowsOf_65 hE hΓ hd v1 v2 v3 v4 v5 σ _ h hk
    · rw [if_pos hc] at h
      refine fhW.blk fhPF fhLL hΓ [(.aload_n 0, 0), (.getfield 39, 0), (.iload 6, 0)] (pc' := 44) (lv' := [(6, .int (fcG σ 72 v5)), (0, .ref 56), (1, .int v1), (2, .int v2), (3, .int v3), (4, .int v4), (5, .int v5)]) (st' := [.int (fcG σ 72 v5), .ref 74]) (σ' := σ) (by decide +kernel) rfl rfl rfl ?_
      refine fhW.callv hΓ mvX2_get ml_4_55 (t := 74) (ci := 2) (av := [.int (fcG σ 72 v5)]) (rest := []) (r := (some (.int (fcG σ 74 (fcG σ 72 v5))))) (σ' := σ) (T_X2_get (E := fhEn Γ) (d := fhD Γ - 1) hE (by omega) 74 (fcG σ 72 v5) rfl σ) (by omega) (by decide +kernel) rfl rfl rfl (Nat.le_of_ble_eq_true rfl) rfl ?_
      show fhW fhYF Γ 47 [(6, .int (fcG σ 72 v5)), (0, .ref 56), (1, .int v1), (2, .int v2), (3, .int v3), (4, .int v4), (5, .int v5)] [.int (fcG σ 74 (fcG σ 72 v5))] σ
      refine fhW.blk fhPF fhLL hΓ [(.iload_n 2, 0), (.ishr, 0), (.iconst 1, 1), (.iand, 0), (.istore 7, 0)] (pc' := 53) (lv' := [(7, .int (((fcG σ 74 (fcG σ 72 v5)) >>> (v2 &&& 31)) &&& (1 : Int32))), (6, .int (fcG σ 72 v5)), (0, .ref 56), (1, .int v1), (2, .int v2), (3, .int v3), (4, .int v4), (5, .int v5)]) (st' := []) (σ' := σ) (by decide +kernel) rfl rfl rfl ?_
      obtain ⟨w7_1, e1, h⟩ := fhlet_elim h
      rw [← e1]
      refine fhW.blk fhPF fhLL hΓ [(.iload_n 3, 0), (.iload 7, 0), (.iand, 0), (.istore_n 3, 0), (.iload 4, 0), (.iload 7, 0), (.ior, 0), (.istore 4, 0)] (pc' := 65) (lv' := [(4, .int (v4 ||| w7_1)), (3, .int (v3 &&& w7_1)), (7, .int w7_1), (6, .int (fcG σ 72 v5)), (0, .ref 56), (1, .int v1), (2, .int v2), (5, .int v5)]) (st' := []) (σ' := σ) (by decide +kernel) rfl rfl rfl ?_
      refine fhW.sub (lv' := [(0, .ref 56), (1, .int v1), (2, .int v2), (3, .int (v3 &&& w7_1)), (4, .int (v4 ||| w7_1)), (5, .int v5)]) [4, 5, 6, 1, 0, 7] rfl ?_
      exact L_X4_knowsOf_65 hE hΓ hd v1 v2 (v3 &&& w7_1) (v4 ||| w7_1) v5 σ _ h hk
set_option maxRecDepth 100000 in
set_option maxHeartbeats 4000000 in
theorem L_X4_knowsOf_E {Γ : fhX} (hE : fhEok fhYF (fhEn Γ)) (hΓ : fhOk fhYF 4 cX4_knowsOf 8 (some .int) Γ) (hd : 3 ≤ fhD Γ) (v1 : Int32) (v2 : Int32)  (σ : fhM) (o : Int32) (h : f_X4_knowsOf v1 v2 σ = some o) (hk : (fun o => fhRet Γ (some (.int o)) σ) o) : fhW fhYF Γ 0 [(0, .ref 56), (1, .int v1), (2, .int v2)] [] σ := by
  unfold f_X4_knowsOf at h
  refine fhW.blk fhPF fhLL hΓ [(.iconst 1, 1), (.istore_n 3, 0), (.iconst 0, 0), (.istore 4, 0), (.iconst 0, 0), (.istore 5, 0)] (pc' := 8) (lv' := [(5, .int (0 : Int32)), (4, .int (0 : Int32)), (3, .int (1 : Int32)), (0, .ref 56), (1, .int v1), (2, .int v2)]) (st' := []) (σ' := σ) (by decide +kernel) rfl rfl rfl ?_
  refine fhW.sub (lv' := [(0, .ref 56), (1, .int v1), (2, .int v2), (3, .int (1 : Int32)), (4, .int (0 : Int32)), (5, .int (0 : Int32))]) [3, 4, 5, 2, 1, 0] rfl ?_
  exact fhlp_ok (W := (fun x => fhW fhYF Γ 8 [(0, .ref 56), (1, .int v1), (2, .int v2), (3, .int x.1), (4, .int x.2.1), (5, .int x.2.2)] [] σ)) (B := (fun o => fhRet Γ (some (.int o)) σ)) (fun x o h hk => L_X4_knowsOf_8 hE hΓ hd v1 v2 x.1 x.2.1 x.2.2 σ o h hk) ((1 : Int32), (0 : Int32), (0 : Int32)) _ h hk
set_option maxRecDepth 100000 in
theorem T_X4_knowsOf {E : fhE} {d : Nat} (hE : fhEok fhYF E) (hd : 3 ≤ d) (v1 : Int32) (v2 : Int32)  (σ : fhM) {o : Int32} (h : f_X4_knowsOf v1 v2 σ = some o) : fhC fhYF E d miX4_knowsOf [.ref 56, .int v1, .int v2] σ (some (.int o)) σ := by
  refine fhC.of (y := yX4_knowsOf) (cc := cX4_knowsOf) (nL := 8) (ret := (some .int)) 4 rfl (by decide +kernel) (Nat.le_of_ble_eq_true rfl) ?_
  intro Γ hΓ hR hD hEn
  subst hD; subst hEn
  exact L_X4_knowsOf_E hE hΓ hd v1 v2  σ _ h hR
set_option maxRecDepth 100000 in
set_option maxHeartbeats 4000000 in
theorem L_X11_knows_E {Γ : fhX} (hE : fhEok fhYF (fhEn Γ)) (hΓ : fhOk fhYF 11 cX11_knows 3 (some .int) Γ) (hd : 4 ≤ fhD Γ) (v1 : Int32) (v2 : Int32)  (σ : fhM) (o : Int32) (h : f_X11_knows v1 v2 σ = some o) (hk : (fun o => fhRet Γ (some (.int o)) σ) o) : fhW fhYF Γ 0 [(0, .ref 0), (1, .int v1), (2, .int v2)] [] σ := by
  unfold f_X11_knows at h
  refine fhW.blk fhPF fhLL hΓ [(.aload_n 0, 0), (.iload_n 1, 0), (.iload_n 2, 0)] (pc' := 3) (lv' := [(0, .ref 0), (1, .int v1), (2, .int v2)]) (st' := [.int v2, .int v1, .ref 0]) (σ' := σ) (by decide +kernel) rfl rfl rfl ?_
  refine fhW.callv hΓ mvX11_isPair ml_11_266 (t := 0) (ci := 11) (av := [.int v1, .int v2]) (rest := []) (r := (some (.int (fhb (f_X11_isPair v1 v2 σ))))) (σ' := σ) (T_X11_isPair (E := fhEn Γ) (d := fhD Γ - 1) hE (by omega) v1 v2 σ) (by omega) (by decide +kernel) rfl rfl rfl (Nat.le_of_ble_eq_true rfl) rfl ?_
  show fhW fhYF Γ 6 [(0, .ref 0), (1, .int v1), (2, .int v2)] [.int (fhb (f_X11_isPair v1 v2 σ))] σ
  refine fhW.b_eq hΓ (tgt := 21) (show fhbk _ _ (.ifCond .eq (15)) _ = true by decide +kernel) (fun hc => ?_) (fun hc => ?_)
  · rw [if_neg hc] at h
    refine fhW.blk fhPF fhLL hΓ [(.iconst (-1), -1)] (pc' := 22) (lv' := [(0, .ref 0), (1, .int v1), (2, .int v2)]) (st' := [.int (-1 : Int32)]) (σ' := σ) (by decide +kernel) rfl rfl rfl ?_
    have e9 := Option.some.inj h
    subst e9
    exact fhW.iret hΓ (by decide +kernel) hk
  · rw [if_pos hc] at h
    refine fhW.blk fhPF fhLL hΓ [(.aload_n 0, 0), (.getfield 72, 0), (.iload_n 1, 0), (.iload_n 2, 0)] (pc' := 15) (lv' := [(0, .ref 0), (1, .int v1), (2, .int v2)]) (st' := [.int v2, .int v1, .ref 56]) (σ' := σ) (by decide +kernel) rfl rfl rfl ?_
    obtain ⟨q1, hb1, h⟩ := Option.bind_eq_some_iff.mp h
    refine fhW.callv hΓ mvX4_knowsOf ml_11_269 (t := 56) (ci := 4) (av := [.int v1, .int v2]) (rest := []) (r := (some (.int q1))) (σ' := σ) (T_X4_knowsOf (E := fhEn Γ) (d := fhD Γ - 1) hE (by omega) v1 v2 σ hb1) (by omega) (by decide +kernel) rfl rfl rfl (Nat.le_of_ble_eq_true rfl) rfl ?_
    show fhW fhYF Γ 18 [(0, .ref 0), (1, .int v1), (2, .int v2)] [.int q1] σ
    refine fhW.goto hΓ (off := 4) (tgt := 22) (by decide +kernel) ?_
    have e9 := Option.some.inj h
    subst e9
    exact fhW.iret hΓ (by decide +kernel) hk
set_option maxRecDepth 100000 in
theorem T_X11_knows {E : fhE} {d : Nat} (hE : fhEok fhYF E) (hd : 4 ≤ d) (v1 : Int32) (v2 : Int32)  (σ : fhM) {o : Int32} (h : f_X11_knows v1 v2 σ = some o) : fhC fhYF E d miX11_knows [.ref 0, .int v1, .int v2] σ (some (.int o)) σ := by
  refine fhC.of (y := yX11_knows) (cc := cX11_knows) (nL := 3) (ret := (some .int)) 11 rfl (by decide +kernel) (Nat.le_of_ble_eq_true rfl) ?_
  intro Γ hΓ hR hD hEn
  subst hD; subst hEn
  exact L_X11_knows_E hE hΓ hd v1 v2  σ _ h hR
set_option maxRecDepth 100000 in
set_option maxHeartbeats 4000000 in
theorem L_X4_deepen_217 {Γ : fhX} (hE : fhEok fhYF (fhEn Γ)) (hΓ : fhOk fhYF 4 cX4_deepen 4 none Γ) (hd : 2 ≤ fhD Γ) (v1 : Int32)  (σ : fhM) (o : (Int32 × fhM) ⊕ (fhM)) (h : f_X4_deepen_217 v1 σ = some o) (hk : (fhK (fun x => fhW fhYF Γ 217 [(0, .ref 56), (1, .int x.1)] [] x.2) (fun o => fhRet Γ none o)) o) : fhW fhYF Γ 217 [(0, .ref 56), (1, .int v1)] [] σ := by
  unfold f_X4_deepen_217 at h
  refine fhW.blk fhPF fhLL hΓ [(.iload_n 1, 0), (.aload_n 0, 0), (.getfield 63, 0)] (pc' := 222) (lv' := [(0, .ref 56), (1, .int v1)]) (st' := [.int (σ.1 56 8), .int v1]) (σ' := σ) (by decide +kernel) rfl rfl rfl ?_
  refine fhW.i_ge hΓ (tgt := 256) (show fhbk _ _ (.if_icmp .ge (34)) _ = true by decide +kernel) (fun hc => ?_) (fun hc => ?_)
  · rw [if_pos hc] at h
    have e9 := Option.some.inj h
    subst e9
    exact fhW.vret hΓ (by decide +kernel) hk
  · rw [if_neg hc] at h
    refine fhW.blk fhPF fhLL hΓ [(.aload_n 0, 0), (.getfield 36, 0), (.iload_n 1, 0)] (pc' := 230) (lv' := [(0, .ref 56), (1, .int v1)]) (st' := [.int v1, .ref 72]) (σ' := σ) (by decide +kernel) rfl rfl rfl ?_
    refine fhW.callv hΓ mvX2_get ml_4_55 (t := 72) (ci := 2) (av := [.int v1]) (rest := []) (r := (some (.int (fcG σ 72 v1)))) (σ' := σ) (T_X2_get (E := fhEn Γ) (d := fhD Γ - 1) hE (by omega) 72 v1 rfl σ) (by omega) (by decide +kernel) rfl rfl rfl (Nat.le_of_ble_eq_true rfl) rfl ?_
    show fhW fhYF Γ 233 [(0, .ref 56), (1, .int v1)] [.int (fcG σ 72 v1)] σ
    refine fhW.blk fhPF fhLL hΓ [(.istore_n 2, 0), (.aload_n 0, 0), (.getfield 23, 0), (.iload_n 2, 0), (.aload_n 0, 0), (.getfield 27, 0), (.iload_n 2, 0)] (pc' := 244) (lv' := [(2, .int (fcG σ 72 v1)), (0, .ref 56), (1, .int v1)]) (st' := [.int (fcG σ 72 v1), .ref 66, .int (fcG σ 72 v1), .ref 64]) (σ' := σ) (by decide +kernel) rfl rfl rfl ?_
    refine fhW.callv hΓ mvX2_get ml_4_55 (t := 66) (ci := 2) (av := [.int (fcG σ 72 v1)]) (rest := [.int (fcG σ 72 v1), .ref 64]) (r := (some (.int (fcG σ 66 (fcG σ 72 v1))))) (σ' := σ) (T_X2_get (E := fhEn Γ) (d := fhD Γ - 1) hE (by omega) 66 (fcG σ 72 v1) rfl σ) (by omega) (by decide +kernel) rfl rfl rfl (Nat.le_of_ble_eq_true rfl) rfl ?_
    show fhW fhYF Γ 247 [(2, .int (fcG σ 72 v1)), (0, .ref 56), (1, .int v1)] [.int (fcG σ 66 (fcG σ 72 v1)), .int (fcG σ 72 v1), .ref 64] σ
    refine fhW.callv hΓ mvX2_put ml_4_59 (t := 64) (ci := 2) (av := [.int (fcG σ 72 v1), .int (fcG σ 66 (fcG σ 72 v1))]) (rest := []) (r := none) (σ' := (fcP σ 64 (fcG σ 72 v1) (fcG σ 66 (fcG σ 72 v1)))) (T_X2_put (E := fhEn Γ) (d := fhD Γ - 1) hE (by omega) 64 (fcG σ 72 v1) (fcG σ 66 (fcG σ 72 v1)) rfl σ) (by omega) (by decide +kernel) rfl rfl rfl (Nat.le_of_ble_eq_true rfl) rfl ?_
    show fhW fhYF Γ 250 [(2, .int (fcG σ 72 v1)), (0, .ref 56), (1, .int v1)] [] (fcP σ 64 (fcG σ 72 v1) (fcG σ 66 (fcG σ 72 v1)))
    refine fhW.blk fhPF fhLL hΓ [(.iinc 1 1, 1)] (pc' := 253) (lv' := [(1, .int (v1 + (1 : Int32))), (2, .int (fcG σ 72 v1)), (0, .ref 56)]) (st' := []) (σ' := (fcP σ 64 (fcG σ 72 v1) (fcG σ 66 (fcG σ 72 v1)))) (by decide +kernel) rfl rfl rfl ?_
    refine fhW.goto hΓ (off := (-36)) (tgt := 217) (by decide +kernel) ?_
    refine fhW.sub (lv' := [(0, .ref 56), (1, .int (v1 + (1 : Int32)))]) [2, 0] rfl ?_
    have e9 := Option.some.inj h
    subst e9
    exact hk
set_option maxRecDepth 100000 in
set_option maxHeartbeats 4000000 in
theorem L_X4_deepen_168 {Γ : fhX} (hE : fhEok fhYF (fhEn Γ)) (hΓ : fhOk fhYF 4 cX4_deepen 4 none Γ) (hd : 2 ≤ fhD Γ) (v1 : Int32) (v2 : Int32)  (σ : fhM) (o : (Int32 × fhM) ⊕ ((Int32 × fhM) ⊕ (fhM))) (h : f_X4_deepen_168 v1 v2 σ = some o) (hk : (fhK (fun x => fhW fhYF Γ 168 [(0, .ref 56), (1, .int v1), (2, .int x.1)] [] x.2) (fhK (fun x => fhW fhYF Γ 43 [(0, .ref 56), (1, .int x.1)] [] x.2) (fun o => fhRet Γ none o))) o) : fhW fhYF Γ 168 [(0, .ref 56), (1, .int v1), (2, .int v2)] [] σ := by
  unfold f_X4_deepen_168 at h
  refine fhW.blk fhPF fhLL hΓ [(.iload_n 2, 0), (.aload_n 0, 0), (.getfield 63, 0)] (pc' := 173) (lv' := [(0, .ref 56), (1, .int v1), (2, .int v2)]) (st' := [.int (σ.1 56 8), .int v2]) (σ' := σ) (by decide +kernel) rfl rfl rfl ?_
  refine fhW.i_ge hΓ (tgt := 209) (show fhbk _ _ (.if_icmp .ge (36)) _ = true by decide +kernel) (fun hc => ?_) (fun hc => ?_)
  · rw [if_pos hc] at h
    refine fhW.blk fhPF fhLL hΓ [(.iinc 1 1, 1)] (pc' := 212) (lv' := [(1, .int (v1 + (1 : Int32))), (0, .ref 56), (2, .int v2)]) (st' := []) (σ' := σ) (by decide +kernel) rfl rfl rfl ?_
    refine fhW.goto hΓ (off := (-169)) (tgt := 43) (by decide +kernel) ?_
    refine fhW.sub (lv' := [(0, .ref 56), (1, .int (v1 + (1 : Int32)))]) [1, 0] rfl ?_
    have e9 := Option.some.inj h
    subst e9
    exact hk
  · rw [if_neg hc] at h
    refine fhW.blk fhPF fhLL hΓ [(.aload_n 0, 0), (.getfield 42, 0)] (pc' := 180) (lv' := [(0, .ref 56), (1, .int v1), (2, .int v2)]) (st' := [.ref 39]) (σ' := σ) (by decide +kernel) rfl rfl rfl ?_
    refine fhW.nest (own := 4) hE hΓ (by decide +kernel) ?_
    refine fhW.blk fhPF fhLL hΓ [(.aload_n 0, 0), (.getfield 42, 0), (.aload_n 0, 0), (.getfield 36, 0), (.iload_n 2, 0)] (pc' := 192) (lv' := [(0, .ref 56), (1, .int v1), (2, .int v2)]) (st' := [.int v2, .ref 72, .ref 39, .ref 48]) (σ' := σ) (by decide +kernel) rfl rfl rfl ?_
    refine fhW.callv hΓ mvX2_get ml_4_55 (t := 72) (ci := 2) (av := [.int v2]) (rest := [.ref 39, .ref 48]) (r := (some (.int (fcG σ 72 v2)))) (σ' := σ) (T_X2_get (E := fhEn Γ) (d := fhD Γ - 1) hE (by omega) 72 v2 rfl σ) (by omega) (by decide +kernel) rfl rfl rfl (Nat.le_of_ble_eq_true rfl) rfl ?_
    show fhW fhYF Γ 195 [(0, .ref 56), (1, .int v1), (2, .int v2)] [.int (fcG σ 72 v2), .ref 39, .ref 48] σ
    refine fhW.blk fhPF fhLL hΓ [(.iload_n 1, 0)] (pc' := 196) (lv' := [(0, .ref 56), (1, .int v1), (2, .int v2)]) (st' := [.int v1, .int (fcG σ 72 v2), .ref 39, .ref 48]) (σ' := σ) (by decide +kernel) rfl rfl rfl ?_
    refine fhW.callv hΓ mvX9_viewOf ml_4_86 (t := 39) (ci := 9) (av := [.int (fcG σ 72 v2), .int v1]) (rest := [.ref 48]) (r := (some (.int (f_X9_viewOf (fcG σ 72 v2) v1 σ)))) (σ' := σ) (T_X9_viewOf (E := fhEn Γ) (d := fhD Γ - 1) hE (by omega) (fcG σ 72 v2) v1 σ) (by omega) (by decide +kernel) rfl rfl rfl (Nat.le_of_ble_eq_true rfl) rfl ?_
    show fhW fhYF Γ 199 [(0, .ref 56), (1, .int v1), (2, .int v2)] [.int (f_X9_viewOf (fcG σ 72 v2) v1 σ), .ref 48] σ
    refine fhW.blk fhPF fhLL hΓ [(.iconst 0, 0)] (pc' := 200) (lv' := [(0, .ref 56), (1, .int v1), (2, .int v2)]) (st' := [.int (0 : Int32), .int (f_X9_viewOf (fcG σ 72 v2) v1 σ), .ref 48]) (σ' := σ) (by decide +kernel) rfl rfl rfl ?_
    refine fhW.callv hΓ mvX2_put ml_4_59 (t := 48) (ci := 2) (av := [.int (f_X9_viewOf (fcG σ 72 v2) v1 σ), .int (0 : Int32)]) (rest := []) (r := none) (σ' := (fcP σ 48 (f_X9_viewOf (fcG σ 72 v2) v1 σ) (0 : Int32))) (T_X2_put (E := fhEn Γ) (d := fhD Γ - 1) hE (by omega) 48 (f_X9_viewOf (fcG σ 72 v2) v1 σ) (0 : Int32) rfl σ) (by omega) (by decide +kernel) rfl rfl rfl (Nat.le_of_ble_eq_true rfl) rfl ?_
    show fhW fhYF Γ 203 [(0, .ref 56), (1, .int v1), (2, .int v2)] [] (fcP σ 48 (f_X9_viewOf (fcG σ 72 v2) v1 σ) (0 : Int32))
    refine fhW.blk fhPF fhLL hΓ [(.iinc 2 1, 1)] (pc' := 206) (lv' := [(2, .int (v2 + (1 : Int32))), (0, .ref 56), (1, .int v1)]) (st' := []) (σ' := (fcP σ 48 (f_X9_viewOf (fcG σ 72 v2) v1 σ) (0 : Int32))) (by decide +kernel) rfl rfl rfl ?_
    refine fhW.goto hΓ (off := (-38)) (tgt := 168) (by decide +kernel) ?_
    refine fhW.sub (lv' := [(0, .ref 56), (1, .int v1), (2, .int (v2 + (1 : Int32)))]) [1, 2, 0] rfl ?_
    have e9 := Option.some.inj h
    subst e9
    exact hk
set_option maxRecDepth 100000 in
set_option maxHeartbeats 4000000 in
theorem L_X4_deepen_160 {Γ : fhX} (hE : fhEok fhYF (fhEn Γ)) (hΓ : fhOk fhYF 4 cX4_deepen 4 none Γ) (hd : 2 ≤ fhD Γ) (v1 : Int32) (v2 : Int32)  (σ : fhM) (o : (Int32 × fhM) ⊕ ((Int32 × fhM) ⊕ (fhM))) (h : f_X4_deepen_160 v1 v2 σ = some o) (hk : (fhK (fun x => fhW fhYF Γ 112 [(0, .ref 56), (1, .int v1), (2, .int x.1)] [] x.2) (fhK (fun x => fhW fhYF Γ 43 [(0, .ref 56), (1, .int x.1)] [] x.2) (fun o => fhRet Γ none o))) o) : fhW fhYF Γ 160 [(0, .ref 56), (1, .int v1), (2, .int v2)] [] σ := by
  unfold f_X4_deepen_160 at h
  refine fhW.blk fhPF fhLL hΓ [(.iinc 2 1, 1)] (pc' := 163) (lv' := [(2, .int (v2 + (1 : Int32))), (0, .ref 56), (1, .int v1)]) (st' := []) (σ' := σ) (by decide +kernel) rfl rfl rfl ?_
  refine fhW.goto hΓ (off := (-51)) (tgt := 112) (by decide +kernel) ?_
  refine fhW.sub (lv' := [(0, .ref 56), (1, .int v1), (2, .int (v2 + (1 : Int32)))]) [1, 2, 0] rfl ?_
  have e9 := Option.some.inj h
  subst e9
  exact hk
set_option maxRecDepth 100000 in
set_option maxHeartbeats 4000000 in
theorem L_X4_deepen_112 {Γ : fhX} (hE : fhEok fhYF (fhEn Γ)) (hΓ : fhOk fhYF 4 cX4_deepen 4 none Γ) (hd : 2 ≤ fhD Γ) (v1 : Int32) (v2 : Int32)  (σ : fhM) (o : (Int32 × fhM) ⊕ ((Int32 × fhM) ⊕ (fhM))) (h : f_X4_deepen_112 v1 v2 σ = some o) (hk : (fhK (fun x => fhW fhYF Γ 112 [(0, .ref 56), (1, .int v1), (2, .int x.1)] [] x.2) (fhK (fun x => fhW fhYF Γ 43 [(0, .ref 56), (1, .int x.1)] [] x.2) (fun o => fhRet Γ none o))) o) : fhW fhYF Γ 112 [(0, .ref 56), (1, .int v1), (2, .int v2)] [] σ := by
  unfold f_X4_deepen_112 at h
  refine fhW.blk fhPF fhLL hΓ [(.iload_n 2, 0), (.aload_n 0, 0), (.getfield 63, 0)] (pc' := 117) (lv' := [(0, .ref 56), (1, .int v1), (2, .int v2)]) (st' := [.int (σ.1 56 8), .int v2]) (σ' := σ) (by decide +kernel) rfl rfl rfl ?_
  refine fhW.i_ge hΓ (tgt := 166) (show fhbk _ _ (.if_icmp .ge (49)) _ = true by decide +kernel) (fun hc => ?_) (fun hc => ?_)
  · rw [if_pos hc] at h
    refine fhW.blk fhPF fhLL hΓ [(.iconst 0, 0), (.istore_n 2, 0)] (pc' := 168) (lv' := [(2, .int (0 : Int32)), (0, .ref 56), (1, .int v1)]) (st' := []) (σ' := σ) (by decide +kernel) rfl rfl rfl ?_
    refine fhW.sub (lv' := [(0, .ref 56), (1, .int v1), (2, .int (0 : Int32))]) [1, 2, 0] rfl ?_
    obtain ⟨z1, hz, e1⟩ := Option.map_eq_some_iff.mp h
    clear h
    subst e1
    have h := hz
    have hk : (fhK (fun x => fhW fhYF Γ 43 [(0, .ref 56), (1, .int x.1)] [] x.2) (fun o => fhRet Γ none o)) z1 := hk
    exact fhlp_ok (W := (fun x => fhW fhYF Γ 168 [(0, .ref 56), (1, .int v1), (2, .int x.1)] [] x.2)) (B := (fhK (fun x => fhW fhYF Γ 43 [(0, .ref 56), (1, .int x.1)] [] x.2) (fun o => fhRet Γ none o))) (fun x o h hk => L_X4_deepen_168 hE hΓ hd v1 x.1 x.2 o h hk) ((0 : Int32), σ) _ h hk
  · rw [if_neg hc] at h
    refine fhW.blk fhPF fhLL hΓ [(.aload_n 0, 0), (.getfield 36, 0), (.iload_n 2, 0)] (pc' := 125) (lv' := [(0, .ref 56), (1, .int v1), (2, .int v2)]) (st' := [.int v2, .ref 72]) (σ' := σ) (by decide +kernel) rfl rfl rfl ?_
    refine fhW.callv hΓ mvX2_get ml_4_55 (t := 72) (ci := 2) (av := [.int v2]) (rest := []) (r := (some (.int (fcG σ 72 v2)))) (σ' := σ) (T_X2_get (E := fhEn Γ) (d := fhD Γ - 1) hE (by omega) 72 v2 rfl σ) (by omega) (by decide +kernel) rfl rfl rfl (Nat.le_of_ble_eq_true rfl) rfl ?_
    show fhW fhYF Γ 128 [(0, .ref 56), (1, .int v1), (2, .int v2)] [.int (fcG σ 72 v2)] σ
    refine fhW.blk fhPF fhLL hΓ [(.istore_n 3, 0), (.aload_n 0, 0), (.getfield 42, 0)] (pc' := 133) (lv' := [(3, .int (fcG σ 72 v2)), (0, .ref 56), (1, .int v1), (2, .int v2)]) (st' := [.ref 39]) (σ' := σ) (by decide +kernel) rfl rfl rfl ?_
    refine fhW.nest (own := 4) hE hΓ (by decide +kernel) ?_
    refine fhW.blk fhPF fhLL hΓ [(.aload_n 0, 0), (.getfield 42, 0), (.iload_n 3, 0), (.iload_n 1, 0)] (pc' := 142) (lv' := [(3, .int (fcG σ 72 v2)), (0, .ref 56), (1, .int v1), (2, .int v2)]) (st' := [.int v1, .int (fcG σ 72 v2), .ref 39, .ref 48]) (σ' := σ) (by decide +kernel) rfl rfl rfl ?_
    refine fhW.callv hΓ mvX9_viewOf ml_4_86 (t := 39) (ci := 9) (av := [.int (fcG σ 72 v2), .int v1]) (rest := [.ref 48]) (r := (some (.int (f_X9_viewOf (fcG σ 72 v2) v1 σ)))) (σ' := σ) (T_X9_viewOf (E := fhEn Γ) (d := fhD Γ - 1) hE (by omega) (fcG σ 72 v2) v1 σ) (by omega) (by decide +kernel) rfl rfl rfl (Nat.le_of_ble_eq_true rfl) rfl ?_
    show fhW fhYF Γ 145 [(3, .int (fcG σ 72 v2)), (0, .ref 56), (1, .int v1), (2, .int v2)] [.int (f_X9_viewOf (fcG σ 72 v2) v1 σ), .ref 48] σ
    refine fhW.callv hΓ mvX2_get ml_4_55 (t := 48) (ci := 2) (av := [.int (f_X9_viewOf (fcG σ 72 v2) v1 σ)]) (rest := []) (r := (some (.int (fcG σ 48 (f_X9_viewOf (fcG σ 72 v2) v1 σ))))) (σ' := σ) (T_X2_get (E := fhEn Γ) (d := fhD Γ - 1) hE (by omega) 48 (f_X9_viewOf (fcG σ 72 v2) v1 σ) rfl σ) (by omega) (by decide +kernel) rfl rfl rfl (Nat.le_of_ble_eq_true rfl) rfl ?_
    show fhW fhYF Γ 148 [(3, .int (fcG σ 72 v2)), (0, .ref 56), (1, .int v1), (2, .int v2)] [.int (fcG σ 48 (f_X9_viewOf (fcG σ 72 v2) v1 σ))] σ
    refine fhW.z_eq hΓ (tgt := 160) (show fhbk _ _ (.ifCond .eq (12)) _ = true by decide +kernel) (fun hc => ?_) (fun hc => ?_)
    · rw [if_pos hc] at h
      refine fhW.sub (lv' := [(0, .ref 56), (1, .int v1), (2, .int v2)]) [1, 2, 3] rfl ?_
      exact L_X4_deepen_160 hE hΓ hd v1 v2 σ _ h hk
    · rw [if_neg hc] at h
      refine fhW.blk fhPF fhLL hΓ [(.aload_n 0, 0), (.getfield 27, 0), (.iload_n 3, 0), (.iconst 0, 0)] (pc' := 157) (lv' := [(3, .int (fcG σ 72 v2)), (0, .ref 56), (1, .int v1), (2, .int v2)]) (st' := [.int (0 : Int32), .int (fcG σ 72 v2), .ref 66]) (σ' := σ) (by decide +kernel) rfl rfl rfl ?_
      refine fhW.callv hΓ mvX2_put ml_4_59 (t := 66) (ci := 2) (av := [.int (fcG σ 72 v2), .int (0 : Int32)]) (rest := []) (r := none) (σ' := (fcP σ 66 (fcG σ 72 v2) (0 : Int32))) (T_X2_put (E := fhEn Γ) (d := fhD Γ - 1) hE (by omega) 66 (fcG σ 72 v2) (0 : Int32) rfl σ) (by omega) (by decide +kernel) rfl rfl rfl (Nat.le_of_ble_eq_true rfl) rfl ?_
      show fhW fhYF Γ 160 [(3, .int (fcG σ 72 v2)), (0, .ref 56), (1, .int v1), (2, .int v2)] [] (fcP σ 66 (fcG σ 72 v2) (0 : Int32))
      refine fhW.sub (lv' := [(0, .ref 56), (1, .int v1), (2, .int v2)]) [1, 2, 3] rfl ?_
      exact L_X4_deepen_160 hE hΓ hd v1 v2 (fcP σ 66 (fcG σ 72 v2) (0 : Int32)) _ h hk
set_option maxRecDepth 100000 in
set_option maxHeartbeats 4000000 in
theorem L_X4_deepen_104 {Γ : fhX} (hE : fhEok fhYF (fhEn Γ)) (hΓ : fhOk fhYF 4 cX4_deepen 4 none Γ) (hd : 2 ≤ fhD Γ) (v1 : Int32) (v2 : Int32)  (σ : fhM) (o : (Int32 × fhM) ⊕ ((Int32 × fhM) ⊕ (fhM))) (h : f_X4_deepen_104 v1 v2 σ = some o) (hk : (fhK (fun x => fhW fhYF Γ 56 [(0, .ref 56), (1, .int v1), (2, .int x.1)] [] x.2) (fhK (fun x => fhW fhYF Γ 43 [(0, .ref 56), (1, .int x.1)] [] x.2) (fun o => fhRet Γ none o))) o) : fhW fhYF Γ 104 [(0, .ref 56), (1, .int v1), (2, .int v2)] [] σ := by
  unfold f_X4_deepen_104 at h
  refine fhW.blk fhPF fhLL hΓ [(.iinc 2 1, 1)] (pc' := 107) (lv' := [(2, .int (v2 + (1 : Int32))), (0, .ref 56), (1, .int v1)]) (st' := []) (σ' := σ) (by decide +kernel) rfl rfl rfl ?_
  refine fhW.goto hΓ (off := (-51)) (tgt := 56) (by decide +kernel) ?_
  refine fhW.sub (lv' := [(0, .ref 56), (1, .int v1), (2, .int (v2 + (1 : Int32)))]) [1, 2, 0] rfl ?_
  have e9 := Option.some.inj h
  subst e9
  exact hk
set_option maxRecDepth 100000 in
set_option maxHeartbeats 4000000 in
theorem L_X4_deepen_56 {Γ : fhX} (hE : fhEok fhYF (fhEn Γ)) (hΓ : fhOk fhYF 4 cX4_deepen 4 none Γ) (hd : 2 ≤ fhD Γ) (v1 : Int32) (v2 : Int32)  (σ : fhM) (o : (Int32 × fhM) ⊕ ((Int32 × fhM) ⊕ (fhM))) (h : f_X4_deepen_56 v1 v2 σ = some o) (hk : (fhK (fun x => fhW fhYF Γ 56 [(0, .ref 56), (1, .int v1), (2, .int x.1)] [] x.2) (fhK (fun x => fhW fhYF Γ 43 [(0, .ref 56), (1, .int x.1)] [] x.2) (fun o => fhRet Γ none o))) o) : fhW fhYF Γ 56 [(0, .ref 56), (1, .int v1), (2, .int v2)] [] σ := by
  unfold f_X4_deepen_56 at h
  refine fhW.blk fhPF fhLL hΓ [(.iload_n 2, 0), (.aload_n 0, 0), (.getfield 63, 0)] (pc' := 61) (lv' := [(0, .ref 56), (1, .int v1), (2, .int v2)]) (st' := [.int (σ.1 56 8), .int v2]) (σ' := σ) (by decide +kernel) rfl rfl rfl ?_
  refine fhW.i_ge hΓ (tgt := 110) (show fhbk _ _ (.if_icmp .ge (49)) _ = true by decide +kernel) (fun hc => ?_) (fun hc => ?_)
  · rw [if_pos hc] at h
    refine fhW.blk fhPF fhLL hΓ [(.iconst 0, 0), (.istore_n 2, 0)] (pc' := 112) (lv' := [(2, .int (0 : Int32)), (0, .ref 56), (1, .int v1)]) (st' := []) (σ' := σ) (by decide +kernel) rfl rfl rfl ?_
    refine fhW.sub (lv' := [(0, .ref 56), (1, .int v1), (2, .int (0 : Int32))]) [1, 2, 0] rfl ?_
    obtain ⟨z2, hz, e2⟩ := Option.map_eq_some_iff.mp h
    clear h
    subst e2
    have h := hz
    have hk : (fhK (fun x => fhW fhYF Γ 43 [(0, .ref 56), (1, .int x.1)] [] x.2) (fun o => fhRet Γ none o)) z2 := hk
    exact fhlp_ok (W := (fun x => fhW fhYF Γ 112 [(0, .ref 56), (1, .int v1), (2, .int x.1)] [] x.2)) (B := (fhK (fun x => fhW fhYF Γ 43 [(0, .ref 56), (1, .int x.1)] [] x.2) (fun o => fhRet Γ none o))) (fun x o h hk => L_X4_deepen_112 hE hΓ hd v1 x.1 x.2 o h hk) ((0 : Int32), σ) _ h hk
  · rw [if_neg hc] at h
    refine fhW.blk fhPF fhLL hΓ [(.aload_n 0, 0), (.getfield 36, 0), (.iload_n 2, 0)] (pc' := 69) (lv' := [(0, .ref 56), (1, .int v1), (2, .int v2)]) (st' := [.int v2, .ref 72]) (σ' := σ) (by decide +kernel) rfl rfl rfl ?_
    refine fhW.callv hΓ mvX2_get ml_4_55 (t := 72) (ci := 2) (av := [.int v2]) (rest := []) (r := (some (.int (fcG σ 72 v2)))) (σ' := σ) (T_X2_get (E := fhEn Γ) (d := fhD Γ - 1) hE (by omega) 72 v2 rfl σ) (by omega) (by decide +kernel) rfl rfl rfl (Nat.le_of_ble_eq_true rfl) rfl ?_
    show fhW fhYF Γ 72 [(0, .ref 56), (1, .int v1), (2, .int v2)] [.int (fcG σ 72 v2)] σ
    refine fhW.blk fhPF fhLL hΓ [(.istore_n 3, 0), (.aload_n 0, 0), (.getfield 23, 0), (.iload_n 3, 0)] (pc' := 78) (lv' := [(3, .int (fcG σ 72 v2)), (0, .ref 56), (1, .int v1), (2, .int v2)]) (st' := [.int (fcG σ 72 v2), .ref 64]) (σ' := σ) (by decide +kernel) rfl rfl rfl ?_
    refine fhW.callv hΓ mvX2_get ml_4_55 (t := 64) (ci := 2) (av := [.int (fcG σ 72 v2)]) (rest := []) (r := (some (.int (fcG σ 64 (fcG σ 72 v2))))) (σ' := σ) (T_X2_get (E := fhEn Γ) (d := fhD Γ - 1) hE (by omega) 64 (fcG σ 72 v2) rfl σ) (by omega) (by decide +kernel) rfl rfl rfl (Nat.le_of_ble_eq_true rfl) rfl ?_
    show fhW fhYF Γ 81 [(3, .int (fcG σ 72 v2)), (0, .ref 56), (1, .int v1), (2, .int v2)] [.int (fcG σ 64 (fcG σ 72 v2))] σ
    refine fhW.z_ne hΓ (tgt := 104) (show fhbk _ _ (.ifCond .ne (23)) _ = true by decide +kernel) (fun hc => ?_) (fun hc => ?_)
    · rw [if_neg hc] at h
      refine fhW.sub (lv' := [(0, .ref 56), (1, .int v1), (2, .int v2)]) [1, 2, 3] rfl ?_
      exact L_X4_deepen_104 hE hΓ hd v1 v2 σ _ h hk
    · rw [if_pos hc] at h
      refine fhW.blk fhPF fhLL hΓ [(.aload_n 0, 0), (.getfield 42, 0)] (pc' := 88) (lv' := [(3, .int (fcG σ 72 v2)), (0, .ref 56), (1, .int v1), (2, .int v2)]) (st' := [.ref 39]) (σ' := σ) (by decide +kernel) rfl rfl rfl ?_
      refine fhW.nest (own := 4) hE hΓ (by decide +kernel) ?_
      refine fhW.blk fhPF fhLL hΓ [(.aload_n 0, 0), (.getfield 42, 0), (.iload_n 3, 0), (.iload_n 1, 0)] (pc' := 97) (lv' := [(3, .int (fcG σ 72 v2)), (0, .ref 56), (1, .int v1), (2, .int v2)]) (st' := [.int v1, .int (fcG σ 72 v2), .ref 39, .ref 48]) (σ' := σ) (by decide +kernel) rfl rfl rfl ?_
      refine fhW.callv hΓ mvX9_viewOf ml_4_86 (t := 39) (ci := 9) (av := [.int (fcG σ 72 v2), .int v1]) (rest := [.ref 48]) (r := (some (.int (f_X9_viewOf (fcG σ 72 v2) v1 σ)))) (σ' := σ) (T_X9_viewOf (E := fhEn Γ) (d := fhD Γ - 1) hE (by omega) (fcG σ 72 v2) v1 σ) (by omega) (by decide +kernel) rfl rfl rfl (Nat.le_of_ble_eq_true rfl) rfl ?_
      show fhW fhYF Γ 100 [(3, .int (fcG σ 72 v2)), (0, .ref 56), (1, .int v1), (2, .int v2)] [.int (f_X9_viewOf (fcG σ 72 v2) v1 σ), .ref 48] σ
      refine fhW.blk fhPF fhLL hΓ [(.iconst 1, 1)] (pc' := 101) (lv' := [(3, .int (fcG σ 72 v2)), (0, .ref 56), (1, .int v1), (2, .int v2)]) (st' := [.int (1 : Int32), .int (f_X9_viewOf (fcG σ 72 v2) v1 σ), .ref 48]) (σ' := σ) (by decide +kernel) rfl rfl rfl ?_
      refine fhW.callv hΓ mvX2_put ml_4_59 (t := 48) (ci := 2) (av := [.int (f_X9_viewOf (fcG σ 72 v2) v1 σ), .int (1 : Int32)]) (rest := []) (r := none) (σ' := (fcP σ 48 (f_X9_viewOf (fcG σ 72 v2) v1 σ) (1 : Int32))) (T_X2_put (E := fhEn Γ) (d := fhD Γ - 1) hE (by omega) 48 (f_X9_viewOf (fcG σ 72 v2) v1 σ) (1 : Int32) rfl σ) (by omega) (by decide +kernel) rfl rfl rfl (Nat.le_of_ble_eq_true rfl) rfl ?_
      show fhW fhYF Γ 104 [(3, .int (fcG σ 72 v2)), (0, .ref 56), (1, .int v1), (2, .int v2)] [] (fcP σ 48 (f_X9_viewOf (fcG σ 72 v2) v1 σ) (1 : Int32))
      refine fhW.sub (lv' := [(0, .ref 56), (1, .int v1), (2, .int v2)]) [1, 2, 3] rfl ?_
      exact L_X4_deepen_104 hE hΓ hd v1 v2 (fcP σ 48 (f_X9_viewOf (fcG σ 72 v2) v1 σ) (1 : Int32)) _ h hk
set_option maxRecDepth 100000 in
set_option maxHeartbeats 4000000 in
theorem L_X4_deepen_43 {Γ : fhX} (hE : fhEok fhYF (fhEn Γ)) (hΓ : fhOk fhYF 4 cX4_deepen 4 none Γ) (hd : 2 ≤ fhD Γ) (v1 : Int32)  (σ : fhM) (o : (Int32 × fhM) ⊕ (fhM)) (h : f_X4_deepen_43 v1 σ = some o) (hk : (fhK (fun x => fhW fhYF Γ 43 [(0, .ref 56), (1, .int x.1)] [] x.2) (fun o => fhRet Γ none o)) o) : fhW fhYF Γ 43 [(0, .ref 56), (1, .int v1)] [] σ := by
  unfold f_X4_deepen_43 at h
  refine fhW.blk fhPF fhLL hΓ [(.iload_n 1, 0), (.aload_n 0, 0), (.getfield 42, 0), (.getfield 97, 0)] (pc' := 51) (lv' := [(0, .ref 56), (1, .int v1)]) (st' := [.int (σ.1 39 9), .int v1]) (σ' := σ) (by decide +kernel) rfl rfl rfl ?_
  refine fhW.i_ge hΓ (tgt := 215) (show fhbk _ _ (.if_icmp .ge (164)) _ = true by decide +kernel) (fun hc => ?_) (fun hc => ?_)
  · rw [if_pos hc] at h
    refine fhW.blk fhPF fhLL hΓ [(.iconst 0, 0), (.istore_n 1, 0)] (pc' := 217) (lv' := [(1, .int (0 : Int32)), (0, .ref 56)]) (st' := []) (σ' := σ) (by decide +kernel) rfl rfl rfl ?_
    refine fhW.sub (lv' := [(0, .ref 56), (1, .int (0 : Int32))]) [1, 0] rfl ?_
    obtain ⟨z3, hz, e3⟩ := Option.map_eq_some_iff.mp h
    clear h
    subst e3
    have h := hz
    have hk : (fun o => fhRet Γ none o) z3 := hk
    exact fhlp_ok (W := (fun x => fhW fhYF Γ 217 [(0, .ref 56), (1, .int x.1)] [] x.2)) (B := (fun o => fhRet Γ none o)) (fun x o h hk => L_X4_deepen_217 hE hΓ hd x.1 x.2 o h hk) ((0 : Int32), σ) _ h hk
  · rw [if_neg hc] at h
    refine fhW.blk fhPF fhLL hΓ [(.iconst 0, 0), (.istore_n 2, 0)] (pc' := 56) (lv' := [(2, .int (0 : Int32)), (0, .ref 56), (1, .int v1)]) (st' := []) (σ' := σ) (by decide +kernel) rfl rfl rfl ?_
    refine fhW.sub (lv' := [(0, .ref 56), (1, .int v1), (2, .int (0 : Int32))]) [1, 2, 0] rfl ?_
    exact fhlp_ok (W := (fun x => fhW fhYF Γ 56 [(0, .ref 56), (1, .int v1), (2, .int x.1)] [] x.2)) (B := (fhK (fun x => fhW fhYF Γ 43 [(0, .ref 56), (1, .int x.1)] [] x.2) (fun o => fhRet Γ none o))) (fun x o h hk => L_X4_deepen_56 hE hΓ hd v1 x.1 x.2 o h hk) ((0 : Int32), σ) _ h hk
set_option maxRecDepth 100000 in
set_option maxHeartbeats 4000000 in
theorem L_X4_deepen_2 {Γ : fhX} (hE : fhEok fhYF (fhEn Γ)) (hΓ : fhOk fhYF 4 cX4_deepen 4 none Γ) (hd : 2 ≤ fhD Γ) (v1 : Int32)  (σ : fhM) (o : (Int32 × fhM) ⊕ (fhM)) (h : f_X4_deepen_2 v1 σ = some o) (hk : (fhK (fun x => fhW fhYF Γ 2 [(0, .ref 56), (1, .int x.1)] [] x.2) (fun o => fhRet Γ none o)) o) : fhW fhYF Γ 2 [(0, .ref 56), (1, .int v1)] [] σ := by
  unfold f_X4_deepen_2 at h
  refine fhW.blk fhPF fhLL hΓ [(.iload_n 1, 0), (.aload_n 0, 0), (.getfield 63, 0)] (pc' := 7) (lv' := [(0, .ref 56), (1, .int v1)]) (st' := [.int (σ.1 56 8), .int v1]) (σ' := σ) (by decide +kernel) rfl rfl rfl ?_
  refine fhW.i_ge hΓ (tgt := 41) (show fhbk _ _ (.if_icmp .ge (34)) _ = true by decide +kernel) (fun hc => ?_) (fun hc => ?_)
  · rw [if_pos hc] at h
    refine fhW.blk fhPF fhLL hΓ [(.iconst 0, 0), (.istore_n 1, 0)] (pc' := 43) (lv' := [(1, .int (0 : Int32)), (0, .ref 56)]) (st' := []) (σ' := σ) (by decide +kernel) rfl rfl rfl ?_
    refine fhW.sub (lv' := [(0, .ref 56), (1, .int (0 : Int32))]) [1, 0] rfl ?_
    obtain ⟨z4, hz, e4⟩ := Option.map_eq_some_iff.mp h
    clear h
    subst e4
    have h := hz
    have hk : (fun o => fhRet Γ none o) z4 := hk
    exact fhlp_ok (W := (fun x => fhW fhYF Γ 43 [(0, .ref 56), (1, .int x.1)] [] x.2)) (B := (fun o => fhRet Γ none o)) (fun x o h hk => L_X4_deepen_43 hE hΓ hd x.1 x.2 o h hk) ((0 : Int32), σ) _ h hk
  · rw [if_neg hc] at h
    refine fhW.blk fhPF fhLL hΓ [(.aload_n 0, 0), (.getfield 36, 0), (.iload_n 1, 0)] (pc' := 15) (lv' := [(0, .ref 56), (1, .int v1)]) (st' := [.int v1, .ref 72]) (σ' := σ) (by decide +kernel) rfl rfl rfl ?_
    refine fhW.callv hΓ mvX2_get ml_4_55 (t := 72) (ci := 2) (av := [.int v1]) (rest := []) (r := (some (.int (fcG σ 72 v1)))) (σ' := σ) (T_X2_get (E := fhEn Γ) (d := fhD Γ - 1) hE (by omega) 72 v1 rfl σ) (by omega) (by decide +kernel) rfl rfl rfl (Nat.le_of_ble_eq_true rfl) rfl ?_
    show fhW fhYF Γ 18 [(0, .ref 56), (1, .int v1)] [.int (fcG σ 72 v1)] σ
    refine fhW.blk fhPF fhLL hΓ [(.istore_n 2, 0), (.aload_n 0, 0), (.getfield 27, 0), (.iload_n 2, 0), (.aload_n 0, 0), (.getfield 23, 0), (.iload_n 2, 0)] (pc' := 29) (lv' := [(2, .int (fcG σ 72 v1)), (0, .ref 56), (1, .int v1)]) (st' := [.int (fcG σ 72 v1), .ref 64, .int (fcG σ 72 v1), .ref 66]) (σ' := σ) (by decide +kernel) rfl rfl rfl ?_
    refine fhW.callv hΓ mvX2_get ml_4_55 (t := 64) (ci := 2) (av := [.int (fcG σ 72 v1)]) (rest := [.int (fcG σ 72 v1), .ref 66]) (r := (some (.int (fcG σ 64 (fcG σ 72 v1))))) (σ' := σ) (T_X2_get (E := fhEn Γ) (d := fhD Γ - 1) hE (by omega) 64 (fcG σ 72 v1) rfl σ) (by omega) (by decide +kernel) rfl rfl rfl (Nat.le_of_ble_eq_true rfl) rfl ?_
    show fhW fhYF Γ 32 [(2, .int (fcG σ 72 v1)), (0, .ref 56), (1, .int v1)] [.int (fcG σ 64 (fcG σ 72 v1)), .int (fcG σ 72 v1), .ref 66] σ
    refine fhW.callv hΓ mvX2_put ml_4_59 (t := 66) (ci := 2) (av := [.int (fcG σ 72 v1), .int (fcG σ 64 (fcG σ 72 v1))]) (rest := []) (r := none) (σ' := (fcP σ 66 (fcG σ 72 v1) (fcG σ 64 (fcG σ 72 v1)))) (T_X2_put (E := fhEn Γ) (d := fhD Γ - 1) hE (by omega) 66 (fcG σ 72 v1) (fcG σ 64 (fcG σ 72 v1)) rfl σ) (by omega) (by decide +kernel) rfl rfl rfl (Nat.le_of_ble_eq_true rfl) rfl ?_
    show fhW fhYF Γ 35 [(2, .int (fcG σ 72 v1)), (0, .ref 56), (1, .int v1)] [] (fcP σ 66 (fcG σ 72 v1) (fcG σ 64 (fcG σ 72 v1)))
    refine fhW.blk fhPF fhLL hΓ [(.iinc 1 1, 1)] (pc' := 38) (lv' := [(1, .int (v1 + (1 : Int32))), (2, .int (fcG σ 72 v1)), (0, .ref 56)]) (st' := []) (σ' := (fcP σ 66 (fcG σ 72 v1) (fcG σ 64 (fcG σ 72 v1)))) (by decide +kernel) rfl rfl rfl ?_
    refine fhW.goto hΓ (off := (-36)) (tgt := 2) (by decide +kernel) ?_
    refine fhW.sub (lv' := [(0, .ref 56), (1, .int (v1 + (1 : Int32)))]) [2, 0] rfl ?_
    have e9 := Option.some.inj h
    subst e9
    exact hk
set_option maxRecDepth 100000 in
set_option maxHeartbeats 4000000 in
theorem L_X4_deepen_E {Γ : fhX} (hE : fhEok fhYF (fhEn Γ)) (hΓ : fhOk fhYF 4 cX4_deepen 4 none Γ) (hd : 2 ≤ fhD Γ)   (σ : fhM) (o : fhM) (h : f_X4_deepen σ = some o) (hk : (fun o => fhRet Γ none o) o) : fhW fhYF Γ 0 [(0, .ref 56)] [] σ := by
  unfold f_X4_deepen at h
  refine fhW.blk fhPF fhLL hΓ [(.iconst 0, 0), (.istore_n 1, 0)] (pc' := 2) (lv' := [(1, .int (0 : Int32)), (0, .ref 56)]) (st' := []) (σ' := σ) (by decide +kernel) rfl rfl rfl ?_
  refine fhW.sub (lv' := [(0, .ref 56), (1, .int (0 : Int32))]) [1, 0] rfl ?_
  exact fhlp_ok (W := (fun x => fhW fhYF Γ 2 [(0, .ref 56), (1, .int x.1)] [] x.2)) (B := (fun o => fhRet Γ none o)) (fun x o h hk => L_X4_deepen_2 hE hΓ hd x.1 x.2 o h hk) ((0 : Int32), σ) _ h hk
set_option maxRecDepth 100000 in
theorem T_X4_deepen {E : fhE} {d : Nat} (hE : fhEok fhYF E) (hd : 2 ≤ d)   (σ : fhM) {o : fhM} (h : f_X4_deepen σ = some o) : fhC fhYF E d miX4_deepen [.ref 56] σ none o := by
  refine fhC.of (y := yX4_deepen) (cc := cX4_deepen) (nL := 4) (ret := none) 4 rfl (by decide +kernel) (Nat.le_of_ble_eq_true rfl) ?_
  intro Γ hΓ hR hD hEn
  subst hD; subst hEn
  exact L_X4_deepen_E hE hΓ hd   σ _ h hR

