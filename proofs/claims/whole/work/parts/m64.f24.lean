set_option maxRecDepth 100000 in
set_option maxHeartbeats 4000000 in
theorem L_X11_checkByte_6 {Γ : fhX} (hE : fhEok fhYF (fhEn Γ)) (hΓ : fhOk fhYF 11 cX11_checkByte 4 (some .int) Γ) (hd : 1 ≤ fhD Γ) (v0 : Nat) (v1 : Int32) (v2 : Int32) (v3 : Int32) (hv0 : fhiC v0 = true) (σ : fhM) (o : (Int32 × Int32) ⊕ (Int32)) (h : f_X11_checkByte_6 v0 v1 v2 v3 σ = some o) (hk : (fhK (fun x => fhW fhYF Γ 6 [(0, .ref v0), (1, .int v1), (2, .int x.1), (3, .int x.2)] [] σ) (fun o => fhRet Γ (some (.int o)) σ)) o) : fhW fhYF Γ 6 [(0, .ref v0), (1, .int v1), (2, .int v2), (3, .int v3)] [] σ := by
  unfold f_X11_checkByte_6 at h
  refine fhW.blk fhPF fhLL hΓ [(.iload_n 3, 0), (.iload_n 1, 0)] (pc' := 8) (lv' := [(0, .ref v0), (1, .int v1), (2, .int v2), (3, .int v3)]) (st' := [.int v1, .int v3]) (σ' := σ) (by decide +kernel) rfl rfl rfl ?_
  refine fhW.i_ge hΓ (tgt := 31) (show fhbk _ _ (.if_icmp .ge (23)) _ = true by decide +kernel) (fun hc => ?_) (fun hc => ?_)
  · rw [if_pos hc] at h
    refine fhW.blk fhPF fhLL hΓ [(.iload_n 2, 0)] (pc' := 32) (lv' := [(0, .ref v0), (1, .int v1), (2, .int v2), (3, .int v3)]) (st' := [.int v2]) (σ' := σ) (by decide +kernel) rfl rfl rfl ?_
    have e9 := Option.some.inj h
    subst e9
    exact fhW.iret hΓ (by decide +kernel) hk
  · rw [if_neg hc] at h
    refine fhW.blk fhPF fhLL hΓ [(.iconst 3, 3), (.iload_n 2, 0), (.imul, 0), (.aload_n 0, 0), (.iload_n 3, 0)] (pc' := 16) (lv' := [(0, .ref v0), (1, .int v1), (2, .int v2), (3, .int v3)]) (st' := [.int v3, .ref v0, .int ((3 : Int32) * v2)]) (σ' := σ) (by decide +kernel) rfl rfl rfl ?_
    refine fhW.callv hΓ mvX2_get ml_11_117 (t := v0) (ci := 2) (av := [.int v3]) (rest := [.int ((3 : Int32) * v2)]) (r := (some (.int (fcG σ v0 v3)))) (σ' := σ) (T_X2_get (E := fhEn Γ) (d := fhD Γ - 1) hE (by omega) v0 v3 hv0 σ) (by omega) (by decide +kernel) rfl (fhiC_g hv0) rfl (Nat.le_of_ble_eq_true rfl) rfl ?_
    show fhW fhYF Γ 19 [(0, .ref v0), (1, .int v1), (2, .int v2), (3, .int v3)] [.int (fcG σ v0 v3), .int ((3 : Int32) * v2)] σ
    refine fhW.blk fhPF fhLL hΓ [(.iadd, 0), (.sipush 251, 251), (.irem, 0), (.istore_n 2, 0)] (pc' := 25) (lv' := [(2, .int (fhrem (((3 : Int32) * v2) + (fcG σ v0 v3)) (251 : Int32))), (0, .ref v0), (1, .int v1), (3, .int v3)]) (st' := []) (σ' := σ) (by decide +kernel) rfl rfl rfl ?_
    obtain ⟨w2_1, e1, h⟩ := fhlet_elim h
    rw [← e1]
    refine fhW.blk fhPF fhLL hΓ [(.iinc 3 1, 1)] (pc' := 28) (lv' := [(3, .int (v3 + (1 : Int32))), (2, .int w2_1), (0, .ref v0), (1, .int v1)]) (st' := []) (σ' := σ) (by decide +kernel) rfl rfl rfl ?_
    refine fhW.goto hΓ (off := (-22)) (tgt := 6) (by decide +kernel) ?_
    refine fhW.sub (lv' := [(0, .ref v0), (1, .int v1), (2, .int w2_1), (3, .int (v3 + (1 : Int32)))]) [2, 3, 1, 0] rfl ?_
    have e9 := Option.some.inj h
    subst e9
    exact hk
set_option maxRecDepth 100000 in
set_option maxHeartbeats 4000000 in
theorem L_X11_checkByte_E {Γ : fhX} (hE : fhEok fhYF (fhEn Γ)) (hΓ : fhOk fhYF 11 cX11_checkByte 4 (some .int) Γ) (hd : 1 ≤ fhD Γ) (v0 : Nat) (v1 : Int32) (hv0 : fhiC v0 = true) (σ : fhM) (o : Int32) (h : f_X11_checkByte v0 v1 σ = some o) (hk : (fun o => fhRet Γ (some (.int o)) σ) o) : fhW fhYF Γ 0 [(0, .ref v0), (1, .int v1)] [] σ := by
  unfold f_X11_checkByte at h
  refine fhW.blk fhPF fhLL hΓ [(.sipush 197, 197), (.istore_n 2, 0), (.iconst 0, 0), (.istore_n 3, 0)] (pc' := 6) (lv' := [(3, .int (0 : Int32)), (2, .int (197 : Int32)), (0, .ref v0), (1, .int v1)]) (st' := []) (σ' := σ) (by decide +kernel) rfl rfl rfl ?_
  refine fhW.sub (lv' := [(0, .ref v0), (1, .int v1), (2, .int (197 : Int32)), (3, .int (0 : Int32))]) [2, 3, 1, 0] rfl ?_
  exact fhlp_ok (W := (fun x => fhW fhYF Γ 6 [(0, .ref v0), (1, .int v1), (2, .int x.1), (3, .int x.2)] [] σ)) (B := (fun o => fhRet Γ (some (.int o)) σ)) (fun x o h hk => L_X11_checkByte_6 hE hΓ hd v0 v1 x.1 x.2 hv0 σ o h hk) ((197 : Int32), (0 : Int32)) _ h hk
set_option maxRecDepth 100000 in
theorem T_X11_checkByte {E : fhE} {d : Nat} (hE : fhEok fhYF E) (hd : 1 ≤ d) (v0 : Nat) (v1 : Int32) (hv0 : fhiC v0 = true) (σ : fhM) {o : Int32} (h : f_X11_checkByte v0 v1 σ = some o) : fhC fhYF E d miX11_checkByte [.ref v0, .int v1] σ (some (.int o)) σ := by
  refine fhC.of (y := yX11_checkByte) (cc := cX11_checkByte) (nL := 4) (ret := (some .int)) 11 rfl (by decide +kernel) (Nat.le_of_ble_eq_true rfl) ?_
  intro Γ hΓ hR hD hEn
  subst hD; subst hEn
  exact L_X11_checkByte_E hE hΓ hd v0 v1 hv0 σ _ h hR
set_option maxRecDepth 100000 in
set_option maxHeartbeats 4000000 in
theorem L_X11_image_100 {Γ : fhX} (hE : fhEok fhYF (fhEn Γ)) (hΓ : fhOk fhYF 11 cX11_image 5 (some .int) Γ) (hd : 2 ≤ fhD Γ) (v1 : Int32) (v2 : Int32)  (σ : fhM) (o : (Int32 × fhM) ⊕ (Int32 × fhM)) (h : f_X11_image_100 v1 v2 σ = some o) (hk : (fhK (fun x => fhW fhYF Γ 100 [(0, .ref 0), (1, .int v1), (2, .int x.1)] [] x.2) (fun o => fhRet Γ (some (.int o.1)) o.2)) o) : fhW fhYF Γ 100 [(0, .ref 0), (1, .int v1), (2, .int v2)] [] σ := by
  unfold f_X11_image_100 at h
  refine fhW.blk fhPF fhLL hΓ [(.iload_n 2, 0), (.aload_n 0, 0), (.getfield 72, 0), (.getfield 189, 0)] (pc' := 108) (lv' := [(0, .ref 0), (1, .int v1), (2, .int v2)]) (st' := [.int (σ.1 56 8), .int v2]) (σ' := σ) (by decide +kernel) rfl rfl rfl ?_
  refine fhW.i_ge hΓ (tgt := 161) (show fhbk _ _ (.if_icmp .ge (53)) _ = true by decide +kernel) (fun hc => ?_) (fun hc => ?_)
  · rw [if_pos hc] at h
    refine fhW.blk fhPF fhLL hΓ [(.aload_n 0, 0), (.aload_n 0, 0)] (pc' := 163) (lv' := [(0, .ref 0), (1, .int v1), (2, .int v2)]) (st' := [.ref 0, .ref 0]) (σ' := σ) (by decide +kernel) rfl rfl rfl ?_
    refine fhW.callv hΓ mvX11_pictureSize ml_11_396 (t := 0) (ci := 11) (av := []) (rest := [.ref 0]) (r := (some (.int (f_X11_pictureSize σ)))) (σ' := σ) (T_X11_pictureSize (E := fhEn Γ) (d := fhD Γ - 1) hE (by omega) σ) (by omega) (by decide +kernel) rfl rfl rfl (Nat.le_of_ble_eq_true rfl) rfl ?_
    show fhW fhYF Γ 166 [(0, .ref 0), (1, .int v1), (2, .int v2)] [.int (f_X11_pictureSize σ), .ref 0] σ
    refine fhW.blk fhPF fhLL hΓ [(.putfield 399, 0), (.aload_n 0, 0), (.getfield 90, 0), (.aload_n 0, 0), (.getfield 399, 0), (.iconst 1, 1), (.isub, 0), (.aload_n 0, 0), (.getfield 90, 0), (.aload_n 0, 0), (.getfield 399, 0), (.iconst 1, 1), (.isub, 0)] (pc' := 189) (lv' := [(0, .ref 0), (1, .int v1), (2, .int v2)]) (st' := [.int ((f_X11_pictureSize σ) - (1 : Int32)), .ref 98, .int ((f_X11_pictureSize σ) - (1 : Int32)), .ref 98]) (σ' := (fhI σ 0 14 (f_X11_pictureSize σ))) (by decide +kernel) rfl rfl rfl ?_
    obtain ⟨q1, hb1, h⟩ := Option.bind_eq_some_iff.mp h
    refine fhW.calls hΓ msX11_checkByte ml_11_402 (av := [.ref 98, .int ((f_X11_pictureSize σ) - (1 : Int32))]) (rest := [.int ((f_X11_pictureSize σ) - (1 : Int32)), .ref 98]) (r := (some (.int q1))) (σ' := (fhI σ 0 14 (f_X11_pictureSize σ))) (T_X11_checkByte (E := fhEn Γ) (d := fhD Γ - 1) hE (by omega) 98 ((f_X11_pictureSize σ) - (1 : Int32)) rfl (fhI σ 0 14 (f_X11_pictureSize σ)) hb1) (by omega) (by decide +kernel) rfl (Nat.le_of_ble_eq_true rfl) rfl ?_
    show fhW fhYF Γ 192 [(0, .ref 0), (1, .int v1), (2, .int v2)] [.int q1, .int ((f_X11_pictureSize σ) - (1 : Int32)), .ref 98] (fhI σ 0 14 (f_X11_pictureSize σ))
    refine fhW.callv hΓ mvX2_put ml_11_113 (t := 98) (ci := 2) (av := [.int ((f_X11_pictureSize σ) - (1 : Int32)), .int q1]) (rest := []) (r := none) (σ' := (fcP (fhI σ 0 14 (f_X11_pictureSize σ)) 98 ((f_X11_pictureSize σ) - (1 : Int32)) q1)) (T_X2_put (E := fhEn Γ) (d := fhD Γ - 1) hE (by omega) 98 ((f_X11_pictureSize σ) - (1 : Int32)) q1 rfl (fhI σ 0 14 (f_X11_pictureSize σ))) (by omega) (by decide +kernel) rfl rfl rfl (Nat.le_of_ble_eq_true rfl) rfl ?_
    show fhW fhYF Γ 195 [(0, .ref 0), (1, .int v1), (2, .int v2)] [] (fcP (fhI σ 0 14 (f_X11_pictureSize σ)) 98 ((f_X11_pictureSize σ) - (1 : Int32)) q1)
    refine fhW.blk fhPF fhLL hΓ [(.aload_n 0, 0), (.getfield 399, 0)] (pc' := 199) (lv' := [(0, .ref 0), (1, .int v1), (2, .int v2)]) (st' := [.int (f_X11_pictureSize σ)]) (σ' := (fcP (fhI σ 0 14 (f_X11_pictureSize σ)) 98 ((f_X11_pictureSize σ) - (1 : Int32)) q1)) (by decide +kernel) rfl rfl rfl ?_
    have e9 := Option.some.inj h
    subst e9
    exact fhW.iret hΓ (by decide +kernel) hk
  · rw [if_neg hc] at h
    refine fhW.blk fhPF fhLL hΓ [(.aload_n 0, 0), (.getfield 72, 0), (.getfield 257, 0), (.iload_n 2, 0)] (pc' := 119) (lv' := [(0, .ref 0), (1, .int v1), (2, .int v2)]) (st' := [.int v2, .ref 72]) (σ' := σ) (by decide +kernel) rfl rfl rfl ?_
    refine fhW.callv hΓ mvX2_get ml_11_117 (t := 72) (ci := 2) (av := [.int v2]) (rest := []) (r := (some (.int (fcG σ 72 v2)))) (σ' := σ) (T_X2_get (E := fhEn Γ) (d := fhD Γ - 1) hE (by omega) 72 v2 rfl σ) (by omega) (by decide +kernel) rfl rfl rfl (Nat.le_of_ble_eq_true rfl) rfl ?_
    show fhW fhYF Γ 122 [(0, .ref 0), (1, .int v1), (2, .int v2)] [.int (fcG σ 72 v2)] σ
    refine fhW.blk fhPF fhLL hΓ [(.istore_n 3, 0), (.iload_n 1, 0), (.iload_n 3, 0), (.iconst 3, 3), (.ishr, 0), (.iadd, 0), (.istore 4, 0)] (pc' := 130) (lv' := [(4, .int (v1 + ((fcG σ 72 v2) >>> ((3 : Int32) &&& 31)))), (3, .int (fcG σ 72 v2)), (0, .ref 0), (1, .int v1), (2, .int v2)]) (st' := []) (σ' := σ) (by decide +kernel) rfl rfl rfl ?_
    obtain ⟨w4_1, e1, h⟩ := fhlet_elim h
    rw [← e1]
    refine fhW.blk fhPF fhLL hΓ [(.aload_n 0, 0), (.getfield 90, 0), (.iload 4, 0), (.aload_n 0, 0), (.getfield 90, 0), (.iload 4, 0)] (pc' := 142) (lv' := [(4, .int w4_1), (3, .int (fcG σ 72 v2)), (0, .ref 0), (1, .int v1), (2, .int v2)]) (st' := [.int w4_1, .ref 98, .int w4_1, .ref 98]) (σ' := σ) (by decide +kernel) rfl rfl rfl ?_
    refine fhW.callv hΓ mvX2_get ml_11_117 (t := 98) (ci := 2) (av := [.int w4_1]) (rest := [.int w4_1, .ref 98]) (r := (some (.int (fcG σ 98 w4_1)))) (σ' := σ) (T_X2_get (E := fhEn Γ) (d := fhD Γ - 1) hE (by omega) 98 w4_1 rfl σ) (by omega) (by decide +kernel) rfl rfl rfl (Nat.le_of_ble_eq_true rfl) rfl ?_
    show fhW fhYF Γ 145 [(4, .int w4_1), (3, .int (fcG σ 72 v2)), (0, .ref 0), (1, .int v1), (2, .int v2)] [.int (fcG σ 98 w4_1), .int w4_1, .ref 98] σ
    refine fhW.blk fhPF fhLL hΓ [(.iconst 1, 1), (.iload_n 3, 0), (.bipush 7, 7), (.iand, 0), (.ishl, 0), (.ior, 0)] (pc' := 152) (lv' := [(4, .int w4_1), (3, .int (fcG σ 72 v2)), (0, .ref 0), (1, .int v1), (2, .int v2)]) (st' := [.int ((fcG σ 98 w4_1) ||| ((1 : Int32) <<< (((fcG σ 72 v2) &&& (7 : Int32)) &&& 31))), .int w4_1, .ref 98]) (σ' := σ) (by decide +kernel) rfl rfl rfl ?_
    refine fhW.callv hΓ mvX2_put ml_11_113 (t := 98) (ci := 2) (av := [.int w4_1, .int ((fcG σ 98 w4_1) ||| ((1 : Int32) <<< (((fcG σ 72 v2) &&& (7 : Int32)) &&& 31)))]) (rest := []) (r := none) (σ' := (fcP σ 98 w4_1 ((fcG σ 98 w4_1) ||| ((1 : Int32) <<< (((fcG σ 72 v2) &&& (7 : Int32)) &&& 31))))) (T_X2_put (E := fhEn Γ) (d := fhD Γ - 1) hE (by omega) 98 w4_1 ((fcG σ 98 w4_1) ||| ((1 : Int32) <<< (((fcG σ 72 v2) &&& (7 : Int32)) &&& 31))) rfl σ) (by omega) (by decide +kernel) rfl rfl rfl (Nat.le_of_ble_eq_true rfl) rfl ?_
    show fhW fhYF Γ 155 [(4, .int w4_1), (3, .int (fcG σ 72 v2)), (0, .ref 0), (1, .int v1), (2, .int v2)] [] (fcP σ 98 w4_1 ((fcG σ 98 w4_1) ||| ((1 : Int32) <<< (((fcG σ 72 v2) &&& (7 : Int32)) &&& 31))))
    refine fhW.blk fhPF fhLL hΓ [(.iinc 2 1, 1)] (pc' := 158) (lv' := [(2, .int (v2 + (1 : Int32))), (4, .int w4_1), (3, .int (fcG σ 72 v2)), (0, .ref 0), (1, .int v1)]) (st' := []) (σ' := (fcP σ 98 w4_1 ((fcG σ 98 w4_1) ||| ((1 : Int32) <<< (((fcG σ 72 v2) &&& (7 : Int32)) &&& 31))))) (by decide +kernel) rfl rfl rfl ?_
    refine fhW.goto hΓ (off := (-58)) (tgt := 100) (by decide +kernel) ?_
    refine fhW.sub (lv' := [(0, .ref 0), (1, .int v1), (2, .int (v2 + (1 : Int32)))]) [3, 4, 0] rfl ?_
    have e9 := Option.some.inj h
    subst e9
    exact hk
set_option maxRecDepth 100000 in
set_option maxHeartbeats 4000000 in
theorem L_X11_image_46 {Γ : fhX} (hE : fhEok fhYF (fhEn Γ)) (hΓ : fhOk fhYF 11 cX11_image 5 (some .int) Γ) (hd : 2 ≤ fhD Γ) (v1 : Int32)  (σ : fhM) (o : (Int32 × fhM) ⊕ (Int32 × fhM)) (h : f_X11_image_46 v1 σ = some o) (hk : (fhK (fun x => fhW fhYF Γ 46 [(0, .ref 0), (1, .int x.1)] [] x.2) (fun o => fhRet Γ (some (.int o.1)) o.2)) o) : fhW fhYF Γ 46 [(0, .ref 0), (1, .int v1)] [] σ := by
  unfold f_X11_image_46 at h
  refine fhW.blk fhPF fhLL hΓ [(.iload_n 1, 0), (.aload_n 0, 0), (.getfield 63, 0), (.getfield 177, 0)] (pc' := 54) (lv' := [(0, .ref 0), (1, .int v1)]) (st' := [.int (σ.1 39 9), .int v1]) (σ' := σ) (by decide +kernel) rfl rfl rfl ?_
  refine fhW.i_ge hΓ (tgt := 88) (show fhbk _ _ (.if_icmp .ge (34)) _ = true by decide +kernel) (fun hc => ?_) (fun hc => ?_)
  · rw [if_pos hc] at h
    refine fhW.blk fhPF fhLL hΓ [(.iconst 2, 2), (.aload_n 0, 0), (.getfield 63, 0), (.getfield 177, 0), (.iadd, 0), (.istore_n 1, 0), (.iconst 0, 0), (.istore_n 2, 0)] (pc' := 100) (lv' := [(2, .int (0 : Int32)), (1, .int ((2 : Int32) + (σ.1 39 9))), (0, .ref 0)]) (st' := []) (σ' := σ) (by decide +kernel) rfl rfl rfl ?_
    refine fhW.sub (lv' := [(0, .ref 0), (1, .int ((2 : Int32) + (σ.1 39 9))), (2, .int (0 : Int32))]) [2, 1, 0] rfl ?_
    obtain ⟨z1, hz, e2⟩ := Option.map_eq_some_iff.mp h
    clear h
    subst e2
    have h := hz
    have hk : (fun o => fhRet Γ (some (.int o.1)) o.2) z1 := hk
    exact fhlp_ok (W := (fun x => fhW fhYF Γ 100 [(0, .ref 0), (1, .int ((2 : Int32) + (σ.1 39 9))), (2, .int x.1)] [] x.2)) (B := (fun o => fhRet Γ (some (.int o.1)) o.2)) (fun x o h hk => L_X11_image_100 hE hΓ hd ((2 : Int32) + (σ.1 39 9)) x.1 x.2 o h hk) ((0 : Int32), σ) _ h hk
  · rw [if_neg hc] at h
    refine fhW.blk fhPF fhLL hΓ [(.aload_n 0, 0), (.getfield 90, 0), (.iconst 2, 2), (.iload_n 1, 0), (.iadd, 0), (.aload_n 0, 0), (.getfield 63, 0), (.aload_n 0, 0), (.getfield 72, 0), (.getfield 219, 0), (.iload_n 1, 0)] (pc' := 76) (lv' := [(0, .ref 0), (1, .int v1)]) (st' := [.int v1, .int (σ.1 56 9), .ref 39, .int ((2 : Int32) + v1), .ref 98]) (σ' := σ) (by decide +kernel) rfl rfl rfl ?_
    refine fhW.callv hΓ mvX9_markOf ml_11_220 (t := 39) (ci := 9) (av := [.int (σ.1 56 9), .int v1]) (rest := [.int ((2 : Int32) + v1), .ref 98]) (r := (some (.int (f_X9_markOf (σ.1 56 9) v1 σ)))) (σ' := σ) (T_X9_markOf (E := fhEn Γ) (d := fhD Γ - 1) hE (by omega) (σ.1 56 9) v1 σ) (by omega) (by decide +kernel) rfl rfl rfl (Nat.le_of_ble_eq_true rfl) rfl ?_
    show fhW fhYF Γ 79 [(0, .ref 0), (1, .int v1)] [.int (f_X9_markOf (σ.1 56 9) v1 σ), .int ((2 : Int32) + v1), .ref 98] σ
    refine fhW.callv hΓ mvX2_put ml_11_113 (t := 98) (ci := 2) (av := [.int ((2 : Int32) + v1), .int (f_X9_markOf (σ.1 56 9) v1 σ)]) (rest := []) (r := none) (σ' := (fcP σ 98 ((2 : Int32) + v1) (f_X9_markOf (σ.1 56 9) v1 σ))) (T_X2_put (E := fhEn Γ) (d := fhD Γ - 1) hE (by omega) 98 ((2 : Int32) + v1) (f_X9_markOf (σ.1 56 9) v1 σ) rfl σ) (by omega) (by decide +kernel) rfl rfl rfl (Nat.le_of_ble_eq_true rfl) rfl ?_
    show fhW fhYF Γ 82 [(0, .ref 0), (1, .int v1)] [] (fcP σ 98 ((2 : Int32) + v1) (f_X9_markOf (σ.1 56 9) v1 σ))
    refine fhW.blk fhPF fhLL hΓ [(.iinc 1 1, 1)] (pc' := 85) (lv' := [(1, .int (v1 + (1 : Int32))), (0, .ref 0)]) (st' := []) (σ' := (fcP σ 98 ((2 : Int32) + v1) (f_X9_markOf (σ.1 56 9) v1 σ))) (by decide +kernel) rfl rfl rfl ?_
    refine fhW.goto hΓ (off := (-39)) (tgt := 46) (by decide +kernel) ?_
    refine fhW.sub (lv' := [(0, .ref 0), (1, .int (v1 + (1 : Int32)))]) [1, 0] rfl ?_
    have e9 := Option.some.inj h
    subst e9
    exact hk
set_option maxRecDepth 100000 in
set_option maxHeartbeats 4000000 in
theorem L_X11_image_E {Γ : fhX} (hE : fhEok fhYF (fhEn Γ)) (hΓ : fhOk fhYF 11 cX11_image 5 (some .int) Γ) (hd : 2 ≤ fhD Γ)   (σ : fhM) (o : Int32 × fhM) (h : f_X11_image σ = some o) (hk : (fun o => fhRet Γ (some (.int o.1)) o.2) o) : fhW fhYF Γ 0 [(0, .ref 0)] [] σ := by
  unfold f_X11_image at h
  refine fhW.blk fhPF fhLL hΓ [(.aload_n 0, 0), (.getfield 90, 0)] (pc' := 4) (lv' := [(0, .ref 0)]) (st' := [.ref 98]) (σ' := σ) (by decide +kernel) rfl rfl rfl ?_
  refine fhW.callv hΓ mvX2_wipe ml_11_395 (t := 98) (ci := 2) (av := []) (rest := []) (r := none) (σ' := (fcW σ 98)) (T_X2_wipe (E := fhEn Γ) (d := fhD Γ - 1) hE (by omega) 98 rfl σ) (by omega) (by decide +kernel) rfl rfl rfl (Nat.le_of_ble_eq_true rfl) rfl ?_
  show fhW fhYF Γ 7 [(0, .ref 0)] [] (fcW σ 98)
  refine fhW.blk fhPF fhLL hΓ [(.aload_n 0, 0), (.getfield 90, 0), (.iconst 0, 0), (.aload_n 0, 0), (.getfield 72, 0), (.getfield 186, 0), (.bipush 8, 8), (.ishr, 0)] (pc' := 22) (lv' := [(0, .ref 0)]) (st' := [.int ((σ.1 56 10) >>> ((8 : Int32) &&& 31)), .int (0 : Int32), .ref 98]) (σ' := (fcW σ 98)) (by decide +kernel) rfl rfl rfl ?_
  refine fhW.callv hΓ mvX2_put ml_11_113 (t := 98) (ci := 2) (av := [.int (0 : Int32), .int ((σ.1 56 10) >>> ((8 : Int32) &&& 31))]) (rest := []) (r := none) (σ' := (fcP (fcW σ 98) 98 (0 : Int32) ((σ.1 56 10) >>> ((8 : Int32) &&& 31)))) (T_X2_put (E := fhEn Γ) (d := fhD Γ - 1) hE (by omega) 98 (0 : Int32) ((σ.1 56 10) >>> ((8 : Int32) &&& 31)) rfl (fcW σ 98)) (by omega) (by decide +kernel) rfl rfl rfl (Nat.le_of_ble_eq_true rfl) rfl ?_
  show fhW fhYF Γ 25 [(0, .ref 0)] [] (fcP (fcW σ 98) 98 (0 : Int32) ((σ.1 56 10) >>> ((8 : Int32) &&& 31)))
  refine fhW.blk fhPF fhLL hΓ [(.aload_n 0, 0), (.getfield 90, 0), (.iconst 1, 1), (.aload_n 0, 0), (.getfield 72, 0), (.getfield 186, 0), (.sipush 255, 255), (.iand, 0)] (pc' := 41) (lv' := [(0, .ref 0)]) (st' := [.int ((σ.1 56 10) &&& (255 : Int32)), .int (1 : Int32), .ref 98]) (σ' := (fcP (fcW σ 98) 98 (0 : Int32) ((σ.1 56 10) >>> ((8 : Int32) &&& 31)))) (by decide +kernel) rfl rfl rfl ?_
  refine fhW.callv hΓ mvX2_put ml_11_113 (t := 98) (ci := 2) (av := [.int (1 : Int32), .int ((σ.1 56 10) &&& (255 : Int32))]) (rest := []) (r := none) (σ' := (fcP (fcP (fcW σ 98) 98 (0 : Int32) ((σ.1 56 10) >>> ((8 : Int32) &&& 31))) 98 (1 : Int32) ((σ.1 56 10) &&& (255 : Int32)))) (T_X2_put (E := fhEn Γ) (d := fhD Γ - 1) hE (by omega) 98 (1 : Int32) ((σ.1 56 10) &&& (255 : Int32)) rfl (fcP (fcW σ 98) 98 (0 : Int32) ((σ.1 56 10) >>> ((8 : Int32) &&& 31)))) (by omega) (by decide +kernel) rfl rfl rfl (Nat.le_of_ble_eq_true rfl) rfl ?_
  show fhW fhYF Γ 44 [(0, .ref 0)] [] (fcP (fcP (fcW σ 98) 98 (0 : Int32) ((σ.1 56 10) >>> ((8 : Int32) &&& 31))) 98 (1 : Int32) ((σ.1 56 10) &&& (255 : Int32)))
  refine fhW.blk fhPF fhLL hΓ [(.iconst 0, 0), (.istore_n 1, 0)] (pc' := 46) (lv' := [(1, .int (0 : Int32)), (0, .ref 0)]) (st' := []) (σ' := (fcP (fcP (fcW σ 98) 98 (0 : Int32) ((σ.1 56 10) >>> ((8 : Int32) &&& 31))) 98 (1 : Int32) ((σ.1 56 10) &&& (255 : Int32)))) (by decide +kernel) rfl rfl rfl ?_
  refine fhW.sub (lv' := [(0, .ref 0), (1, .int (0 : Int32))]) [1, 0] rfl ?_
  exact fhlp_ok (W := (fun x => fhW fhYF Γ 46 [(0, .ref 0), (1, .int x.1)] [] x.2)) (B := (fun o => fhRet Γ (some (.int o.1)) o.2)) (fun x o h hk => L_X11_image_46 hE hΓ hd x.1 x.2 o h hk) ((0 : Int32), (fcP (fcP (fcW σ 98) 98 (0 : Int32) ((σ.1 56 10) >>> ((8 : Int32) &&& 31))) 98 (1 : Int32) ((σ.1 56 10) &&& (255 : Int32)))) _ h hk
set_option maxRecDepth 100000 in
theorem T_X11_image {E : fhE} {d : Nat} (hE : fhEok fhYF E) (hd : 2 ≤ d)   (σ : fhM) {o : Int32 × fhM} (h : f_X11_image σ = some o) : fhC fhYF E d miX11_image [.ref 0] σ (some (.int o.1)) o.2 := by
  refine fhC.of (y := yX11_image) (cc := cX11_image) (nL := 5) (ret := (some .int)) 11 rfl (by decide +kernel) (Nat.le_of_ble_eq_true rfl) ?_
  intro Γ hΓ hR hD hEn
  subst hD; subst hEn
  exact L_X11_image_E hE hΓ hd   σ _ h hR
set_option maxRecDepth 100000 in
set_option maxHeartbeats 4000000 in
theorem L_X11_octet_E {Γ : fhX} (hE : fhEok fhYF (fhEn Γ)) (hΓ : fhOk fhYF 11 cX11_octet 2 (some .int) Γ) (hd : 1 ≤ fhD Γ) (v1 : Int32)  (σ : fhM) (o : Int32) (h : f_X11_octet v1 σ = o) (hk : (fun o => fhRet Γ (some (.int o)) σ) o) : fhW fhYF Γ 0 [(0, .ref 0), (1, .int v1)] [] σ := by
  unfold f_X11_octet at h
  refine fhW.blk fhPF fhLL hΓ [(.iload_n 1, 0)] (pc' := 1) (lv' := [(0, .ref 0), (1, .int v1)]) (st' := [.int v1]) (σ' := σ) (by decide +kernel) rfl rfl rfl ?_
  refine fhW.z_lt hΓ (tgt := 23) (show fhbk _ _ (.ifCond .lt (22)) _ = true by decide +kernel) (fun hc => ?_) (fun hc => ?_)
  · rw [if_pos hc] at h
    refine fhW.blk fhPF fhLL hΓ [(.iconst (-1), -1)] (pc' := 24) (lv' := [(0, .ref 0), (1, .int v1)]) (st' := [.int (-1 : Int32)]) (σ' := σ) (by decide +kernel) rfl rfl rfl ?_
    subst h
    exact fhW.iret hΓ (by decide +kernel) hk
  · rw [if_neg hc] at h
    refine fhW.blk fhPF fhLL hΓ [(.iload_n 1, 0), (.aload_n 0, 0), (.getfield 399, 0)] (pc' := 9) (lv' := [(0, .ref 0), (1, .int v1)]) (st' := [.int (σ.1 0 14), .int v1]) (σ' := σ) (by decide +kernel) rfl rfl rfl ?_
    refine fhW.i_ge hΓ (tgt := 23) (show fhbk _ _ (.if_icmp .ge (14)) _ = true by decide +kernel) (fun hc => ?_) (fun hc => ?_)
    · rw [if_pos hc] at h
      refine fhW.blk fhPF fhLL hΓ [(.iconst (-1), -1)] (pc' := 24) (lv' := [(0, .ref 0), (1, .int v1)]) (st' := [.int (-1 : Int32)]) (σ' := σ) (by decide +kernel) rfl rfl rfl ?_
      subst h
      exact fhW.iret hΓ (by decide +kernel) hk
    · rw [if_neg hc] at h
      refine fhW.blk fhPF fhLL hΓ [(.aload_n 0, 0), (.getfield 90, 0), (.iload_n 1, 0)] (pc' := 17) (lv' := [(0, .ref 0), (1, .int v1)]) (st' := [.int v1, .ref 98]) (σ' := σ) (by decide +kernel) rfl rfl rfl ?_
      refine fhW.callv hΓ mvX2_get ml_11_117 (t := 98) (ci := 2) (av := [.int v1]) (rest := []) (r := (some (.int (fcG σ 98 v1)))) (σ' := σ) (T_X2_get (E := fhEn Γ) (d := fhD Γ - 1) hE (by omega) 98 v1 rfl σ) (by omega) (by decide +kernel) rfl rfl rfl (Nat.le_of_ble_eq_true rfl) rfl ?_
      show fhW fhYF Γ 20 [(0, .ref 0), (1, .int v1)] [.int (fcG σ 98 v1)] σ
      refine fhW.goto hΓ (off := 4) (tgt := 24) (by decide +kernel) ?_
      subst h
      exact fhW.iret hΓ (by decide +kernel) hk
set_option maxRecDepth 100000 in
theorem T_X11_octet {E : fhE} {d : Nat} (hE : fhEok fhYF E) (hd : 1 ≤ d) (v1 : Int32)  (σ : fhM) : fhC fhYF E d miX11_octet [.ref 0, .int v1] σ (some (.int (f_X11_octet v1 σ))) σ := by
  refine fhC.of (y := yX11_octet) (cc := cX11_octet) (nL := 2) (ret := (some .int)) 11 rfl (by decide +kernel) (Nat.le_of_ble_eq_true rfl) ?_
  intro Γ hΓ hR hD hEn
  subst hD; subst hEn
  exact L_X11_octet_E hE hΓ hd v1  σ _ rfl hR
set_option maxRecDepth 100000 in
set_option maxHeartbeats 4000000 in
theorem L_X11_rowOfPicture_68 {Γ : fhX} (hE : fhEok fhYF (fhEn Γ)) (hΓ : fhOk fhYF 11 cX11_rowOfPicture 4 (some .int) Γ) (hd : 3 ≤ fhD Γ) (v2 : Int32) (v3 : Int32)  (σ : fhM) (o : (Int32 × Int32) ⊕ (Int32)) (h : f_X11_rowOfPicture_68 v2 v3 σ = some o) (hk : (fhK (fun x => fhW fhYF Γ 68 [(0, .ref 0), (2, .int x.1), (3, .int x.2)] [] σ) (fun o => fhRet Γ (some (.int o)) σ)) o) : fhW fhYF Γ 68 [(0, .ref 0), (2, .int v2), (3, .int v3)] [] σ := by
  unfold f_X11_rowOfPicture_68 at h
  refine fhW.blk fhPF fhLL hΓ [(.iload_n 3, 0), (.aload_n 0, 0), (.getfield 63, 0), (.getfield 177, 0)] (pc' := 76) (lv' := [(0, .ref 0), (2, .int v2), (3, .int v3)]) (st' := [.int (σ.1 39 9), .int v3]) (σ' := σ) (by decide +kernel) rfl rfl rfl ?_
  refine fhW.i_ge hΓ (tgt := 110) (show fhbk _ _ (.if_icmp .ge (34)) _ = true by decide +kernel) (fun hc => ?_) (fun hc => ?_)
  · rw [if_pos hc] at h
    refine fhW.blk fhPF fhLL hΓ [(.iload_n 2, 0)] (pc' := 111) (lv' := [(0, .ref 0), (2, .int v2), (3, .int v3)]) (st' := [.int v2]) (σ' := σ) (by decide +kernel) rfl rfl rfl ?_
    have e9 := Option.some.inj h
    subst e9
    exact fhW.iret hΓ (by decide +kernel) hk
  · rw [if_neg hc] at h
    refine fhW.blk fhPF fhLL hΓ [(.iload_n 2, 0), (.iconst (-1), -1)] (pc' := 81) (lv' := [(0, .ref 0), (2, .int v2), (3, .int v3)]) (st' := [.int (-1 : Int32), .int v2]) (σ' := σ) (by decide +kernel) rfl rfl rfl ?_
    refine fhW.i_eq hΓ (tgt := 110) (show fhbk _ _ (.if_icmp .eq (29)) _ = true by decide +kernel) (fun hc => ?_) (fun hc => ?_)
    · rw [if_pos hc] at h
      refine fhW.blk fhPF fhLL hΓ [(.iload_n 2, 0)] (pc' := 111) (lv' := [(0, .ref 0), (2, .int v2), (3, .int v3)]) (st' := [.int v2]) (σ' := σ) (by decide +kernel) rfl rfl rfl ?_
      have e9 := Option.some.inj h
      subst e9
      exact fhW.iret hΓ (by decide +kernel) hk
    · rw [if_neg hc] at h
      refine fhW.blk fhPF fhLL hΓ [(.aload_n 0, 0), (.getfield 63, 0), (.iload_n 2, 0), (.iload_n 3, 0), (.aload_n 0, 0), (.getfield 14, 0), (.iconst 2, 2), (.iload_n 3, 0), (.iadd, 0)] (pc' := 97) (lv' := [(0, .ref 0), (2, .int v2), (3, .int v3)]) (st' := [.int ((2 : Int32) + v3), .ref 1, .int v3, .int v2, .ref 39]) (σ' := σ) (by decide +kernel) rfl rfl rfl ?_
      refine fhW.callv hΓ mvX2_get ml_11_117 (t := 1) (ci := 2) (av := [.int ((2 : Int32) + v3)]) (rest := [.int v3, .int v2, .ref 39]) (r := (some (.int (fcG σ 1 ((2 : Int32) + v3))))) (σ' := σ) (T_X2_get (E := fhEn Γ) (d := fhD Γ - 1) hE (by omega) 1 ((2 : Int32) + v3) rfl σ) (by omega) (by decide +kernel) rfl rfl rfl (Nat.le_of_ble_eq_true rfl) rfl ?_
      show fhW fhYF Γ 100 [(0, .ref 0), (2, .int v2), (3, .int v3)] [.int (fcG σ 1 ((2 : Int32) + v3)), .int v3, .int v2, .ref 39] σ
      refine fhW.callv hΓ mvX9_withMark ml_11_343 (t := 39) (ci := 9) (av := [.int v2, .int v3, .int (fcG σ 1 ((2 : Int32) + v3))]) (rest := []) (r := (some (.int (f_X9_withMark v2 v3 (fcG σ 1 ((2 : Int32) + v3)) σ)))) (σ' := σ) (T_X9_withMark (E := fhEn Γ) (d := fhD Γ - 1) hE (by omega) v2 v3 (fcG σ 1 ((2 : Int32) + v3)) σ) (by omega) (by decide +kernel) rfl rfl rfl (Nat.le_of_ble_eq_true rfl) rfl ?_
      show fhW fhYF Γ 103 [(0, .ref 0), (2, .int v2), (3, .int v3)] [.int (f_X9_withMark v2 v3 (fcG σ 1 ((2 : Int32) + v3)) σ)] σ
      refine fhW.blk fhPF fhLL hΓ [(.istore_n 2, 0)] (pc' := 104) (lv' := [(2, .int (f_X9_withMark v2 v3 (fcG σ 1 ((2 : Int32) + v3)) σ)), (0, .ref 0), (3, .int v3)]) (st' := []) (σ' := σ) (by decide +kernel) rfl rfl rfl ?_
      obtain ⟨w2_1, e1, h⟩ := fhlet_elim h
      rw [← e1]
      refine fhW.blk fhPF fhLL hΓ [(.iinc 3 1, 1)] (pc' := 107) (lv' := [(3, .int (v3 + (1 : Int32))), (2, .int w2_1), (0, .ref 0)]) (st' := []) (σ' := σ) (by decide +kernel) rfl rfl rfl ?_
      refine fhW.goto hΓ (off := (-39)) (tgt := 68) (by decide +kernel) ?_
      refine fhW.sub (lv' := [(0, .ref 0), (2, .int w2_1), (3, .int (v3 + (1 : Int32)))]) [2, 1, 0] rfl ?_
      have e9 := Option.some.inj h
      subst e9
      exact hk
set_option maxRecDepth 100000 in
set_option maxHeartbeats 4000000 in
theorem L_X11_rowOfPicture_65 {Γ : fhX} (hE : fhEok fhYF (fhEn Γ)) (hΓ : fhOk fhYF 11 cX11_rowOfPicture 4 (some .int) Γ) (hd : 3 ≤ fhD Γ) (s0 : Int32)  (σ : fhM) (o : Int32) (h : f_X11_rowOfPicture_65 s0 σ = some o) (hk : (fun o => fhRet Γ (some (.int o)) σ) o) : fhW fhYF Γ 65 [(0, .ref 0)] [.int s0] σ := by
  unfold f_X11_rowOfPicture_65 at h
  refine fhW.blk fhPF fhLL hΓ [(.istore_n 2, 0), (.iconst 0, 0), (.istore_n 3, 0)] (pc' := 68) (lv' := [(3, .int (0 : Int32)), (2, .int s0), (0, .ref 0)]) (st' := []) (σ' := σ) (by decide +kernel) rfl rfl rfl ?_
  refine fhW.sub (lv' := [(0, .ref 0), (2, .int s0), (3, .int (0 : Int32))]) [2, 1, 0] rfl ?_
  exact fhlp_ok (W := (fun x => fhW fhYF Γ 68 [(0, .ref 0), (2, .int x.1), (3, .int x.2)] [] σ)) (B := (fun o => fhRet Γ (some (.int o)) σ)) (fun x o h hk => L_X11_rowOfPicture_68 hE hΓ hd x.1 x.2 σ o h hk) (s0, (0 : Int32)) _ h hk
set_option maxRecDepth 100000 in
set_option maxHeartbeats 4000000 in
theorem L_X11_rowOfPicture_E {Γ : fhX} (hE : fhEok fhYF (fhEn Γ)) (hΓ : fhOk fhYF 11 cX11_rowOfPicture 4 (some .int) Γ) (hd : 3 ≤ fhD Γ) (v1 : Int32)  (σ : fhM) (o : Int32) (h : f_X11_rowOfPicture v1 σ = some o) (hk : (fun o => fhRet Γ (some (.int o)) σ) o) : fhW fhYF Γ 0 [(0, .ref 0), (1, .int v1)] [] σ := by
  unfold f_X11_rowOfPicture at h
  refine fhW.blk fhPF fhLL hΓ [(.iload_n 1, 0), (.aload_n 0, 0)] (pc' := 2) (lv' := [(0, .ref 0), (1, .int v1)]) (st' := [.ref 0, .int v1]) (σ' := σ) (by decide +kernel) rfl rfl rfl ?_
  refine fhW.callv hΓ mvX11_pictureSize ml_11_396 (t := 0) (ci := 11) (av := []) (rest := [.int v1]) (r := (some (.int (f_X11_pictureSize σ)))) (σ' := σ) (T_X11_pictureSize (E := fhEn Γ) (d := fhD Γ - 1) hE (by omega) σ) (by omega) (by decide +kernel) rfl rfl rfl (Nat.le_of_ble_eq_true rfl) rfl ?_
  show fhW fhYF Γ 5 [(0, .ref 0), (1, .int v1)] [.int (f_X11_pictureSize σ), .int v1] σ
  refine fhW.i_ne hΓ (tgt := 31) (show fhbk _ _ (.if_icmp .ne (26)) _ = true by decide +kernel) (fun hc => ?_) (fun hc => ?_)
  · rw [if_neg hc] at h
    refine fhW.blk fhPF fhLL hΓ [(.iconst (-1), -1)] (pc' := 32) (lv' := [(0, .ref 0), (1, .int v1)]) (st' := [.int (-1 : Int32)]) (σ' := σ) (by decide +kernel) rfl rfl rfl ?_
    have e9 := Option.some.inj h
    subst e9
    exact fhW.iret hΓ (by decide +kernel) hk
  · rw [if_pos hc] at h
    refine fhW.blk fhPF fhLL hΓ [(.aload_n 0, 0), (.getfield 14, 0), (.iload_n 1, 0), (.iconst 1, 1), (.isub, 0)] (pc' := 15) (lv' := [(0, .ref 0), (1, .int v1)]) (st' := [.int (v1 - (1 : Int32)), .ref 1]) (σ' := σ) (by decide +kernel) rfl rfl rfl ?_
    refine fhW.callv hΓ mvX2_get ml_11_117 (t := 1) (ci := 2) (av := [.int (v1 - (1 : Int32))]) (rest := []) (r := (some (.int (fcG σ 1 (v1 - (1 : Int32)))))) (σ' := σ) (T_X2_get (E := fhEn Γ) (d := fhD Γ - 1) hE (by omega) 1 (v1 - (1 : Int32)) rfl σ) (by omega) (by decide +kernel) rfl rfl rfl (Nat.le_of_ble_eq_true rfl) rfl ?_
    show fhW fhYF Γ 18 [(0, .ref 0), (1, .int v1)] [.int (fcG σ 1 (v1 - (1 : Int32)))] σ
    refine fhW.blk fhPF fhLL hΓ [(.aload_n 0, 0), (.getfield 14, 0), (.iload_n 1, 0), (.iconst 1, 1), (.isub, 0)] (pc' := 25) (lv' := [(0, .ref 0), (1, .int v1)]) (st' := [.int (v1 - (1 : Int32)), .ref 1, .int (fcG σ 1 (v1 - (1 : Int32)))]) (σ' := σ) (by decide +kernel) rfl rfl rfl ?_
    obtain ⟨q1, hb1, h⟩ := Option.bind_eq_some_iff.mp h
    refine fhW.calls hΓ msX11_checkByte ml_11_402 (av := [.ref 1, .int (v1 - (1 : Int32))]) (rest := [.int (fcG σ 1 (v1 - (1 : Int32)))]) (r := (some (.int q1))) (σ' := σ) (T_X11_checkByte (E := fhEn Γ) (d := fhD Γ - 1) hE (by omega) 1 (v1 - (1 : Int32)) rfl σ hb1) (by omega) (by decide +kernel) rfl (Nat.le_of_ble_eq_true rfl) rfl ?_
    show fhW fhYF Γ 28 [(0, .ref 0), (1, .int v1)] [.int q1, .int (fcG σ 1 (v1 - (1 : Int32)))] σ
    refine fhW.i_eq hΓ (tgt := 33) (show fhbk _ _ (.if_icmp .eq (5)) _ = true by decide +kernel) (fun hc => ?_) (fun hc => ?_)
    · rw [if_pos hc] at h
      refine fhW.blk fhPF fhLL hΓ [(.aload_n 0, 0), (.getfield 14, 0), (.iconst 0, 0)] (pc' := 38) (lv' := [(0, .ref 0), (1, .int v1)]) (st' := [.int (0 : Int32), .ref 1]) (σ' := σ) (by decide +kernel) rfl rfl rfl ?_
      refine fhW.callv hΓ mvX2_get ml_11_117 (t := 1) (ci := 2) (av := [.int (0 : Int32)]) (rest := []) (r := (some (.int (fcG σ 1 (0 : Int32))))) (σ' := σ) (T_X2_get (E := fhEn Γ) (d := fhD Γ - 1) hE (by omega) 1 (0 : Int32) rfl σ) (by omega) (by decide +kernel) rfl rfl rfl (Nat.le_of_ble_eq_true rfl) rfl ?_
      show fhW fhYF Γ 41 [(0, .ref 0), (1, .int v1)] [.int (fcG σ 1 (0 : Int32))] σ
      refine fhW.blk fhPF fhLL hΓ [(.sipush 256, 256), (.imul, 0), (.aload_n 0, 0), (.getfield 14, 0), (.iconst 1, 1)] (pc' := 50) (lv' := [(0, .ref 0), (1, .int v1)]) (st' := [.int (1 : Int32), .ref 1, .int ((fcG σ 1 (0 : Int32)) * (256 : Int32))]) (σ' := σ) (by decide +kernel) rfl rfl rfl ?_
      refine fhW.callv hΓ mvX2_get ml_11_117 (t := 1) (ci := 2) (av := [.int (1 : Int32)]) (rest := [.int ((fcG σ 1 (0 : Int32)) * (256 : Int32))]) (r := (some (.int (fcG σ 1 (1 : Int32))))) (σ' := σ) (T_X2_get (E := fhEn Γ) (d := fhD Γ - 1) hE (by omega) 1 (1 : Int32) rfl σ) (by omega) (by decide +kernel) rfl rfl rfl (Nat.le_of_ble_eq_true rfl) rfl ?_
      show fhW fhYF Γ 53 [(0, .ref 0), (1, .int v1)] [.int (fcG σ 1 (1 : Int32)), .int ((fcG σ 1 (0 : Int32)) * (256 : Int32))] σ
      refine fhW.blk fhPF fhLL hΓ [(.iadd, 0), (.sipush 999, 999)] (pc' := 57) (lv' := [(0, .ref 0), (1, .int v1)]) (st' := [.int (999 : Int32), .int (((fcG σ 1 (0 : Int32)) * (256 : Int32)) + (fcG σ 1 (1 : Int32)))]) (σ' := σ) (by decide +kernel) rfl rfl rfl ?_
      refine fhW.i_gt hΓ (tgt := 64) (show fhbk _ _ (.if_icmp .gt (7)) _ = true by decide +kernel) (fun hc => ?_) (fun hc => ?_)
      · simp only [if_pos hc] at h
        refine fhW.blk fhPF fhLL hΓ [(.iconst (-1), -1)] (pc' := 65) (lv' := [(0, .ref 0), (1, .int v1)]) (st' := [.int (-1 : Int32)]) (σ' := σ) (by decide +kernel) rfl rfl rfl ?_
        refine fhW.sub (lv' := [(0, .ref 0)]) [0] rfl ?_
        exact L_X11_rowOfPicture_65 hE hΓ hd (-1 : Int32) σ _ h hk
      · simp only [if_neg hc] at h
        refine fhW.blk fhPF fhLL hΓ [(.iconst 0, 0)] (pc' := 61) (lv' := [(0, .ref 0), (1, .int v1)]) (st' := [.int (0 : Int32)]) (σ' := σ) (by decide +kernel) rfl rfl rfl ?_
        refine fhW.goto hΓ (off := 4) (tgt := 65) (by decide +kernel) ?_
        refine fhW.sub (lv' := [(0, .ref 0)]) [0] rfl ?_
        exact L_X11_rowOfPicture_65 hE hΓ hd (0 : Int32) σ _ h hk
    · rw [if_neg hc] at h
      refine fhW.blk fhPF fhLL hΓ [(.iconst (-1), -1)] (pc' := 32) (lv' := [(0, .ref 0), (1, .int v1)]) (st' := [.int (-1 : Int32)]) (σ' := σ) (by decide +kernel) rfl rfl rfl ?_
      have e9 := Option.some.inj h
      subst e9
      exact fhW.iret hΓ (by decide +kernel) hk
set_option maxRecDepth 100000 in
theorem T_X11_rowOfPicture {E : fhE} {d : Nat} (hE : fhEok fhYF E) (hd : 3 ≤ d) (v1 : Int32)  (σ : fhM) {o : Int32} (h : f_X11_rowOfPicture v1 σ = some o) : fhC fhYF E d miX11_rowOfPicture [.ref 0, .int v1] σ (some (.int o)) σ := by
  refine fhC.of (y := yX11_rowOfPicture) (cc := cX11_rowOfPicture) (nL := 4) (ret := (some .int)) 11 rfl (by decide +kernel) (Nat.le_of_ble_eq_true rfl) ?_
  intro Γ hΓ hR hD hEn
  subst hD; subst hEn
  exact L_X11_rowOfPicture_E hE hΓ hd v1  σ _ h hR
set_option maxRecDepth 100000 in
set_option maxHeartbeats 4000000 in
theorem L_X11_tapeBit_E {Γ : fhX} (hE : fhEok fhYF (fhEn Γ)) (hΓ : fhOk fhYF 11 cX11_tapeBit 2 (some .boolean) Γ) (hd : 1 ≤ fhD Γ) (v1 : Int32)  (σ : fhM) (o : Bool) (h : f_X11_tapeBit v1 σ = o) (hk : (fun o => fhRet Γ (some (.int (fhb o))) σ) o) : fhW fhYF Γ 0 [(0, .ref 0), (1, .int v1)] [] σ := by
  unfold f_X11_tapeBit at h
  refine fhW.blk fhPF fhLL hΓ [(.aload_n 0, 0), (.getfield 14, 0), (.iconst 2, 2), (.aload_n 0, 0), (.getfield 63, 0), (.getfield 177, 0), (.iadd, 0), (.iload_n 1, 0), (.iconst 3, 3), (.ishr, 0), (.iadd, 0)] (pc' := 17) (lv' := [(0, .ref 0), (1, .int v1)]) (st' := [.int (((2 : Int32) + (σ.1 39 9)) + (v1 >>> ((3 : Int32) &&& 31))), .ref 1]) (σ' := σ) (by decide +kernel) rfl rfl rfl ?_
  refine fhW.callv hΓ mvX2_get ml_11_117 (t := 1) (ci := 2) (av := [.int (((2 : Int32) + (σ.1 39 9)) + (v1 >>> ((3 : Int32) &&& 31)))]) (rest := []) (r := (some (.int (fcG σ 1 (((2 : Int32) + (σ.1 39 9)) + (v1 >>> ((3 : Int32) &&& 31))))))) (σ' := σ) (T_X2_get (E := fhEn Γ) (d := fhD Γ - 1) hE (by omega) 1 (((2 : Int32) + (σ.1 39 9)) + (v1 >>> ((3 : Int32) &&& 31))) rfl σ) (by omega) (by decide +kernel) rfl rfl rfl (Nat.le_of_ble_eq_true rfl) rfl ?_
  show fhW fhYF Γ 20 [(0, .ref 0), (1, .int v1)] [.int (fcG σ 1 (((2 : Int32) + (σ.1 39 9)) + (v1 >>> ((3 : Int32) &&& 31))))] σ
  refine fhW.blk fhPF fhLL hΓ [(.iload_n 1, 0), (.bipush 7, 7), (.iand, 0), (.ishr, 0), (.iconst 1, 1), (.iand, 0)] (pc' := 27) (lv' := [(0, .ref 0), (1, .int v1)]) (st' := [.int (((fcG σ 1 (((2 : Int32) + (σ.1 39 9)) + (v1 >>> ((3 : Int32) &&& 31)))) >>> ((v1 &&& (7 : Int32)) &&& 31)) &&& (1 : Int32))]) (σ' := σ) (by decide +kernel) rfl rfl rfl ?_
  refine fhW.z_eq hΓ (tgt := 34) (show fhbk _ _ (.ifCond .eq (7)) _ = true by decide +kernel) (fun hc => ?_) (fun hc => ?_)
  · rw [if_pos hc] at h
    refine fhW.blk fhPF fhLL hΓ [(.iconst 0, 0)] (pc' := 35) (lv' := [(0, .ref 0), (1, .int v1)]) (st' := [.int (0 : Int32)]) (σ' := σ) (by decide +kernel) rfl rfl rfl ?_
    subst h
    exact fhW.zret (v := false) hΓ (by decide +kernel) hk
  · rw [if_neg hc] at h
    refine fhW.blk fhPF fhLL hΓ [(.iconst 1, 1)] (pc' := 31) (lv' := [(0, .ref 0), (1, .int v1)]) (st' := [.int (1 : Int32)]) (σ' := σ) (by decide +kernel) rfl rfl rfl ?_
    refine fhW.goto hΓ (off := 4) (tgt := 35) (by decide +kernel) ?_
    subst h
    exact fhW.zret (v := true) hΓ (by decide +kernel) hk
set_option maxRecDepth 100000 in
theorem T_X11_tapeBit {E : fhE} {d : Nat} (hE : fhEok fhYF E) (hd : 1 ≤ d) (v1 : Int32)  (σ : fhM) : fhC fhYF E d miX11_tapeBit [.ref 0, .int v1] σ (some (.int (fhb (f_X11_tapeBit v1 σ)))) σ := by
  refine fhC.of (y := yX11_tapeBit) (cc := cX11_tapeBit) (nL := 2) (ret := (some .boolean)) 11 rfl (by decide +kernel) (Nat.le_of_ble_eq_true rfl) ?_
  intro Γ hΓ hR hD hEn
  subst hD; subst hEn
  exact L_X11_tapeBit_E hE hΓ hd v1  σ _ rfl hR
set_option maxRecDepth 100000 in
set_option maxHeartbeats 4000000 in
theorem L_X11_isLeftFitting_45 {Γ : fhX} (hE : fhEok fhYF (fhEn Γ)) (hΓ : fhOk fhYF 11 cX11_isLeftFitting 4 (some .boolean) Γ) (hd : 2 ≤ fhD Γ) (v1 : Int32) (v2 : Int32) (v3 : Int32)  (σ : fhM) (o : (Int32) ⊕ (Bool)) (h : f_X11_isLeftFitting_45 v1 v2 v3 σ = some o) (hk : (fhK (fun x => fhW fhYF Γ 19 [(0, .ref 0), (1, .int v1), (2, .int v2), (3, .int x)] [] σ) (fun o => fhRet Γ (some (.int (fhb o))) σ)) o) : fhW fhYF Γ 45 [(0, .ref 0), (1, .int v1), (2, .int v2), (3, .int v3)] [] σ := by
  unfold f_X11_isLeftFitting_45 at h
  refine fhW.blk fhPF fhLL hΓ [(.iinc 3 1, 1)] (pc' := 48) (lv' := [(3, .int (v3 + (1 : Int32))), (0, .ref 0), (1, .int v1), (2, .int v2)]) (st' := []) (σ' := σ) (by decide +kernel) rfl rfl rfl ?_
  refine fhW.goto hΓ (off := (-29)) (tgt := 19) (by decide +kernel) ?_
  refine fhW.sub (lv' := [(0, .ref 0), (1, .int v1), (2, .int v2), (3, .int (v3 + (1 : Int32)))]) [1, 2, 3, 0] rfl ?_
  have e9 := Option.some.inj h
  subst e9
  exact hk
set_option maxRecDepth 100000 in
set_option maxHeartbeats 4000000 in
theorem L_X11_isLeftFitting_19 {Γ : fhX} (hE : fhEok fhYF (fhEn Γ)) (hΓ : fhOk fhYF 11 cX11_isLeftFitting 4 (some .boolean) Γ) (hd : 2 ≤ fhD Γ) (v1 : Int32) (v2 : Int32) (v3 : Int32)  (σ : fhM) (o : (Int32) ⊕ (Bool)) (h : f_X11_isLeftFitting_19 v1 v2 v3 σ = some o) (hk : (fhK (fun x => fhW fhYF Γ 19 [(0, .ref 0), (1, .int v1), (2, .int v2), (3, .int x)] [] σ) (fun o => fhRet Γ (some (.int (fhb o))) σ)) o) : fhW fhYF Γ 19 [(0, .ref 0), (1, .int v1), (2, .int v2), (3, .int v3)] [] σ := by
  unfold f_X11_isLeftFitting_19 at h
  refine fhW.blk fhPF fhLL hΓ [(.iload_n 3, 0), (.iload_n 2, 0)] (pc' := 21) (lv' := [(0, .ref 0), (1, .int v1), (2, .int v2), (3, .int v3)]) (st' := [.int v2, .int v3]) (σ' := σ) (by decide +kernel) rfl rfl rfl ?_
  refine fhW.i_ge hΓ (tgt := 51) (show fhbk _ _ (.if_icmp .ge (30)) _ = true by decide +kernel) (fun hc => ?_) (fun hc => ?_)
  · rw [if_pos hc] at h
    refine fhW.blk fhPF fhLL hΓ [(.aload_n 0, 0), (.iload_n 1, 0)] (pc' := 53) (lv' := [(0, .ref 0), (1, .int v1), (2, .int v2), (3, .int v3)]) (st' := [.int v1, .ref 0]) (σ' := σ) (by decide +kernel) rfl rfl rfl ?_
    refine fhW.callv hΓ mvX11_tapeBit ml_11_411 (t := 0) (ci := 11) (av := [.int v1]) (rest := []) (r := (some (.int (fhb (f_X11_tapeBit v1 σ))))) (σ' := σ) (T_X11_tapeBit (E := fhEn Γ) (d := fhD Γ - 1) hE (by omega) v1 σ) (by omega) (by decide +kernel) rfl rfl rfl (Nat.le_of_ble_eq_true rfl) rfl ?_
    show fhW fhYF Γ 56 [(0, .ref 0), (1, .int v1), (2, .int v2), (3, .int v3)] [.int (fhb (f_X11_tapeBit v1 σ))] σ
    have e9 := Option.some.inj h
    subst e9
    exact fhW.zret (v := (f_X11_tapeBit v1 σ)) hΓ (by decide +kernel) hk
  · rw [if_neg hc] at h
    refine fhW.blk fhPF fhLL hΓ [(.aload_n 0, 0), (.iload_n 3, 0)] (pc' := 26) (lv' := [(0, .ref 0), (1, .int v1), (2, .int v2), (3, .int v3)]) (st' := [.int v3, .ref 0]) (σ' := σ) (by decide +kernel) rfl rfl rfl ?_
    refine fhW.callv hΓ mvX11_tapeBit ml_11_411 (t := 0) (ci := 11) (av := [.int v3]) (rest := []) (r := (some (.int (fhb (f_X11_tapeBit v3 σ))))) (σ' := σ) (T_X11_tapeBit (E := fhEn Γ) (d := fhD Γ - 1) hE (by omega) v3 σ) (by omega) (by decide +kernel) rfl rfl rfl (Nat.le_of_ble_eq_true rfl) rfl ?_
    show fhW fhYF Γ 29 [(0, .ref 0), (1, .int v1), (2, .int v2), (3, .int v3)] [.int (fhb (f_X11_tapeBit v3 σ))] σ
    refine fhW.b_eq hΓ (tgt := 45) (show fhbk _ _ (.ifCond .eq (16)) _ = true by decide +kernel) (fun hc => ?_) (fun hc => ?_)
    · rw [if_neg hc] at h
      refine fhW.sub (lv' := [(0, .ref 0), (1, .int v1), (2, .int v2), (3, .int v3)]) [0, 1, 2, 3] rfl ?_
      exact L_X11_isLeftFitting_45 hE hΓ hd v1 v2 v3 σ _ h hk
    · rw [if_pos hc] at h
      refine fhW.blk fhPF fhLL hΓ [(.aload_n 0, 0), (.getfield 63, 0), (.iload_n 3, 0)] (pc' := 37) (lv' := [(0, .ref 0), (1, .int v1), (2, .int v2), (3, .int v3)]) (st' := [.int v3, .ref 39]) (σ' := σ) (by decide +kernel) rfl rfl rfl ?_
      refine fhW.callv hΓ mvX9_isAllowed ml_11_347 (t := 39) (ci := 9) (av := [.int v3]) (rest := []) (r := (some (.int (fhb (f_X9_isAllowed v3 σ))))) (σ' := σ) (T_X9_isAllowed (E := fhEn Γ) (d := fhD Γ - 1) hE (by omega) v3 σ) (by omega) (by decide +kernel) rfl rfl rfl (Nat.le_of_ble_eq_true rfl) rfl ?_
      show fhW fhYF Γ 40 [(0, .ref 0), (1, .int v1), (2, .int v2), (3, .int v3)] [.int (fhb (f_X9_isAllowed v3 σ))] σ
      refine fhW.b_ne hΓ (tgt := 45) (show fhbk _ _ (.ifCond .ne (5)) _ = true by decide +kernel) (fun hc => ?_) (fun hc => ?_)
      · rw [if_pos hc] at h
        refine fhW.sub (lv' := [(0, .ref 0), (1, .int v1), (2, .int v2), (3, .int v3)]) [0, 1, 2, 3] rfl ?_
        exact L_X11_isLeftFitting_45 hE hΓ hd v1 v2 v3 σ _ h hk
      · rw [if_neg hc] at h
        refine fhW.blk fhPF fhLL hΓ [(.iconst 0, 0)] (pc' := 44) (lv' := [(0, .ref 0), (1, .int v1), (2, .int v2), (3, .int v3)]) (st' := [.int (0 : Int32)]) (σ' := σ) (by decide +kernel) rfl rfl rfl ?_
        have e9 := Option.some.inj h
        subst e9
        exact fhW.zret (v := false) hΓ (by decide +kernel) hk
set_option maxRecDepth 100000 in
set_option maxHeartbeats 4000000 in
theorem L_X11_isLeftFitting_E {Γ : fhX} (hE : fhEok fhYF (fhEn Γ)) (hΓ : fhOk fhYF 11 cX11_isLeftFitting 4 (some .boolean) Γ) (hd : 2 ≤ fhD Γ) (v1 : Int32)  (σ : fhM) (o : Bool) (h : f_X11_isLeftFitting v1 σ = some o) (hk : (fun o => fhRet Γ (some (.int (fhb o))) σ) o) : fhW fhYF Γ 0 [(0, .ref 0), (1, .int v1)] [] σ := by
  unfold f_X11_isLeftFitting at h
  refine fhW.blk fhPF fhLL hΓ [(.aload_n 0, 0), (.getfield 63, 0), (.getfield 260, 0), (.bipush 7, 7), (.iadd, 0), (.bipush 8, 8), (.idiv, 0), (.bipush 8, 8), (.imul, 0), (.istore_n 2, 0)] (pc' := 17) (lv' := [(2, .int ((((σ.1 39 11) + (7 : Int32)) / (8 : Int32)) * (8 : Int32))), (0, .ref 0), (1, .int v1)]) (st' := []) (σ' := σ) (by decide +kernel) rfl rfl rfl ?_
  obtain ⟨w2_1, e1, h⟩ := fhlet_elim h
  rw [← e1]
  refine fhW.blk fhPF fhLL hΓ [(.iconst 0, 0), (.istore_n 3, 0)] (pc' := 19) (lv' := [(3, .int (0 : Int32)), (2, .int w2_1), (0, .ref 0), (1, .int v1)]) (st' := []) (σ' := σ) (by decide +kernel) rfl rfl rfl ?_
  refine fhW.sub (lv' := [(0, .ref 0), (1, .int v1), (2, .int w2_1), (3, .int (0 : Int32))]) [2, 3, 1, 0] rfl ?_
  exact fhlp_ok (W := (fun x => fhW fhYF Γ 19 [(0, .ref 0), (1, .int v1), (2, .int w2_1), (3, .int x)] [] σ)) (B := (fun o => fhRet Γ (some (.int (fhb o))) σ)) (fun x o h hk => L_X11_isLeftFitting_19 hE hΓ hd v1 w2_1 x σ o h hk) (0 : Int32) _ h hk
set_option maxRecDepth 100000 in
theorem T_X11_isLeftFitting {E : fhE} {d : Nat} (hE : fhEok fhYF E) (hd : 2 ≤ d) (v1 : Int32)  (σ : fhM) {o : Bool} (h : f_X11_isLeftFitting v1 σ = some o) : fhC fhYF E d miX11_isLeftFitting [.ref 0, .int v1] σ (some (.int (fhb o))) σ := by
  refine fhC.of (y := yX11_isLeftFitting) (cc := cX11_isLeftFitting) (nL := 4) (ret := (some .boolean)) 11 rfl (by decide +kernel) (Nat.le_of_ble_eq_true rfl) ?_
  intro Γ hΓ hR hD hEn
  subst hD; subst hEn
  exact L_X11_isLeftFitting_E hE hΓ hd v1  σ _ h hR

