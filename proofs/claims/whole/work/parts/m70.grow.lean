/-! CONSTRUCTORS: tables, by program -/
def gcd (x : Nat) : ByteArray := match x with
  | 0 => cX0_init
  | 1 => cX1_init
  | 2 => cX2_init
  | 3 => cX3_init
  | 4 => cX4_init
  | 5 => cX5_init
  | 6 => cX6_init
  | 7 => cX7_init
  | 8 => cX8_init
  | 9 => cX9_init
  | 10 => cX10_init
  | 11 => cX11_init
  | _ => cX12_init
def gnl (x : Nat) : Nat := match x with
  | 0 => 1
  | 1 => 2
  | 2 => 2
  | 3 => 1
  | 4 => 2
  | 5 => 3
  | 6 => 1
  | 7 => 3
  | 8 => 1
  | 9 => 1
  | 10 => 1
  | 11 => 1
  | _ => 1
def gy (x : Nat) : MethodName := match x with
  | 0 => yX0_init
  | 1 => yX1_init
  | 2 => yX2_init
  | 3 => yX3_init
  | 4 => yX4_init
  | 5 => yX5_init
  | 6 => yX6_init
  | 7 => yX7_init
  | 8 => yX8_init
  | 9 => yX9_init
  | 10 => yX10_init
  | 11 => yX11_init
  | _ => yX12_init
def gnp (x : Nat) : Nat := match x with
  | 0 => 0
  | 1 => 1
  | 2 => 1
  | 3 => 0
  | 4 => 1
  | 5 => 2
  | 6 => 0
  | 7 => 2
  | 8 => 0
  | 9 => 0
  | 10 => 0
  | 11 => 0
  | _ => 0
theorem gcls : ∀ x, x < 13 → (gy x).cls = fhrx x ∧ (gy x).name = "<init>" ∧ plainName (gy x).cls = true ∧ (gy x).cls ≠ "java/lang/invoke/MethodHandle" ∧ (gy x).cls ≠ "java/lang/invoke/VarHandle" ∧ (parseMethodDescriptor (gy x).desc).map (fun d => d.parameters.length) = some (gnp x) ∧ gnl x ≤ 3 := by decide +kernel
theorem gin_0 : Cond.code (gy 0) (gcd 0) (gnl 0) none ∈ fhtbl ∧ Cond.instanceMethod (gy 0) ∈ fhtbl ∧ Cond.initialized (fhrx 0) ∈ fhtbl ∧ Cond.instantiable (fhrx 0) (fhcN 0) ∈ fhtbl := ⟨fhm (in_t (in_2 (List.mem_of_getElem? (i := 49) rfl))) rfl, fhm (in_t (in_2 (List.mem_of_getElem? (i := 48) rfl))) rfl, fhm (in_t (in_1 (List.mem_of_getElem? (i := 11) rfl))) rfl, fhm (in_t (in_2 (List.mem_of_getElem? (i := 46) rfl))) rfl⟩
theorem gin_1 : Cond.code (gy 1) (gcd 1) (gnl 1) none ∈ fhtbl ∧ Cond.instanceMethod (gy 1) ∈ fhtbl ∧ Cond.initialized (fhrx 1) ∈ fhtbl ∧ Cond.instantiable (fhrx 1) (fhcN 1) ∈ fhtbl := ⟨fhm (in_t (in_2 (List.mem_of_getElem? (i := 131) rfl))) rfl, fhm (in_t (in_2 (List.mem_of_getElem? (i := 130) rfl))) rfl, fhm (in_t (in_1 (List.mem_of_getElem? (i := 12) rfl))) rfl, fhm (in_t (in_2 (List.mem_of_getElem? (i := 128) rfl))) rfl⟩
theorem gin_2 : Cond.code (gy 2) (gcd 2) (gnl 2) none ∈ fhtbl ∧ Cond.instanceMethod (gy 2) ∈ fhtbl ∧ Cond.initialized (fhrx 2) ∈ fhtbl ∧ Cond.instantiable (fhrx 2) (fhcN 2) ∈ fhtbl := ⟨fhm (in_t (in_1 (List.mem_of_getElem? (i := 32) rfl))) rfl, fhm (in_t (in_1 (List.mem_of_getElem? (i := 31) rfl))) rfl, fhm (in_t (in_1 (List.mem_of_getElem? (i := 2) rfl))) rfl, fhm (in_t (in_1 (List.mem_of_getElem? (i := 29) rfl))) rfl⟩
theorem gin_3 : Cond.code (gy 3) (gcd 3) (gnl 3) none ∈ fhtbl ∧ Cond.instanceMethod (gy 3) ∈ fhtbl ∧ Cond.initialized (fhrx 3) ∈ fhtbl ∧ Cond.instantiable (fhrx 3) (fhcN 3) ∈ fhtbl := ⟨fhm (in_t (in_1 (List.mem_of_getElem? (i := 93) rfl))) rfl, fhm (in_t (in_1 (List.mem_of_getElem? (i := 92) rfl))) rfl, fhm (in_t (in_1 (List.mem_of_getElem? (i := 5) rfl))) rfl, fhm (in_t (in_1 (List.mem_of_getElem? (i := 90) rfl))) rfl⟩
theorem gin_4 : Cond.code (gy 4) (gcd 4) (gnl 4) none ∈ fhtbl ∧ Cond.instanceMethod (gy 4) ∈ fhtbl ∧ Cond.initialized (fhrx 4) ∈ fhtbl ∧ Cond.instantiable (fhrx 4) (fhcN 4) ∈ fhtbl := ⟨fhm (in_t (in_2 (List.mem_of_getElem? (i := 43) rfl))) rfl, fhm (in_t (in_2 (List.mem_of_getElem? (i := 42) rfl))) rfl, fhm (in_t (in_1 (List.mem_of_getElem? (i := 10) rfl))) rfl, fhm (in_t (in_2 (List.mem_of_getElem? (i := 40) rfl))) rfl⟩
theorem gin_5 : Cond.code (gy 5) (gcd 5) (gnl 5) none ∈ fhtbl ∧ Cond.instanceMethod (gy 5) ∈ fhtbl ∧ Cond.initialized (fhrx 5) ∈ fhtbl ∧ Cond.instantiable (fhrx 5) (fhcN 5) ∈ fhtbl := ⟨fhm (in_t (in_1 (List.mem_of_getElem? (i := 111) rfl))) rfl, fhm (in_t (in_1 (List.mem_of_getElem? (i := 110) rfl))) rfl, fhm (in_t (in_1 (List.mem_of_getElem? (i := 6) rfl))) rfl, fhm (in_t (in_1 (List.mem_of_getElem? (i := 108) rfl))) rfl⟩
theorem gin_6 : Cond.code (gy 6) (gcd 6) (gnl 6) none ∈ fhtbl ∧ Cond.instanceMethod (gy 6) ∈ fhtbl ∧ Cond.initialized (fhrx 6) ∈ fhtbl ∧ Cond.instantiable (fhrx 6) (fhcN 6) ∈ fhtbl := ⟨fhm (in_t (in_2 (List.mem_of_getElem? (i := 185) rfl))) rfl, fhm (in_t (in_2 (List.mem_of_getElem? (i := 184) rfl))) rfl, fhm (in_t (in_1 (List.mem_of_getElem? (i := 13) rfl))) rfl, fhm (in_t (in_2 (List.mem_of_getElem? (i := 182) rfl))) rfl⟩
theorem gin_7 : Cond.code (gy 7) (gcd 7) (gnl 7) none ∈ fhtbl ∧ Cond.instanceMethod (gy 7) ∈ fhtbl ∧ Cond.initialized (fhrx 7) ∈ fhtbl ∧ Cond.instantiable (fhrx 7) (fhcN 7) ∈ fhtbl := ⟨fhm (in_t (in_1 (List.mem_of_getElem? (i := 151) rfl))) rfl, fhm (in_t (in_1 (List.mem_of_getElem? (i := 150) rfl))) rfl, fhm (in_t (in_1 (List.mem_of_getElem? (i := 8) rfl))) rfl, fhm (in_t (in_1 (List.mem_of_getElem? (i := 148) rfl))) rfl⟩
theorem gin_8 : Cond.code (gy 8) (gcd 8) (gnl 8) none ∈ fhtbl ∧ Cond.instanceMethod (gy 8) ∈ fhtbl ∧ Cond.initialized (fhrx 8) ∈ fhtbl ∧ Cond.instantiable (fhrx 8) (fhcN 8) ∈ fhtbl := ⟨fhm (in_t (in_1 (List.mem_of_getElem? (i := 46) rfl))) rfl, fhm (in_t (in_1 (List.mem_of_getElem? (i := 45) rfl))) rfl, fhm (in_t (in_1 (List.mem_of_getElem? (i := 4) rfl))) rfl, fhm (in_t (in_1 (List.mem_of_getElem? (i := 43) rfl))) rfl⟩
theorem gin_9 : Cond.code (gy 9) (gcd 9) (gnl 9) none ∈ fhtbl ∧ Cond.instanceMethod (gy 9) ∈ fhtbl ∧ Cond.initialized (fhrx 9) ∈ fhtbl ∧ Cond.instantiable (fhrx 9) (fhcN 9) ∈ fhtbl := ⟨fhm (in_t (in_1 (List.mem_of_getElem? (i := 216) rfl))) rfl, fhm (in_t (in_1 (List.mem_of_getElem? (i := 215) rfl))) rfl, fhm (in_t (in_1 (List.mem_of_getElem? (i := 9) rfl))) rfl, fhm (in_t (in_1 (List.mem_of_getElem? (i := 213) rfl))) rfl⟩
theorem gin_10 : Cond.code (gy 10) (gcd 10) (gnl 10) none ∈ fhtbl ∧ Cond.instanceMethod (gy 10) ∈ fhtbl ∧ Cond.initialized (fhrx 10) ∈ fhtbl ∧ Cond.instantiable (fhrx 10) (fhcN 10) ∈ fhtbl := ⟨fhm (in_t (in_1 (List.mem_of_getElem? (i := 133) rfl))) rfl, fhm (in_t (in_1 (List.mem_of_getElem? (i := 132) rfl))) rfl, fhm (in_t (in_1 (List.mem_of_getElem? (i := 7) rfl))) rfl, fhm (in_t (in_1 (List.mem_of_getElem? (i := 130) rfl))) rfl⟩
theorem gin_11 : Cond.code (gy 11) (gcd 11) (gnl 11) none ∈ fhtbl ∧ Cond.instanceMethod (gy 11) ∈ fhtbl ∧ Cond.initialized (fhrx 11) ∈ fhtbl ∧ Cond.instantiable (fhrx 11) (fhcN 11) ∈ fhtbl := ⟨fhm (in_t (in_1 (List.mem_of_getElem? (i := 24) rfl))) rfl, fhm (in_t (in_1 (List.mem_of_getElem? (i := 23) rfl))) rfl, fhm (in_t (in_1 (List.mem_of_getElem? (i := 1) rfl))) rfl, fhm (in_t (in_1 (List.mem_of_getElem? (i := 21) rfl))) rfl⟩
theorem gin_12 : Cond.code (gy 12) (gcd 12) (gnl 12) none ∈ fhtbl ∧ Cond.instanceMethod (gy 12) ∈ fhtbl ∧ Cond.initialized (fhrx 12) ∈ fhtbl ∧ Cond.instantiable (fhrx 12) (fhcN 12) ∈ fhtbl := ⟨fhm (in_t (in_6 (List.mem_of_getElem? (i := 111) rfl))) rfl, fhm (in_t (in_6 (List.mem_of_getElem? (i := 110) rfl))) rfl, fhm (in_t (in_1 (List.mem_of_getElem? (i := 14) rfl))) rfl, fhm (in_t (in_6 (List.mem_of_getElem? (i := 108) rfl))) rfl⟩
theorem gin (x : Nat) (hx : x < 13) : Cond.code (gy x) (gcd x) (gnl x) none ∈ fhtbl ∧ Cond.instanceMethod (gy x) ∈ fhtbl ∧ Cond.initialized (fhrx x) ∈ fhtbl ∧ Cond.instantiable (fhrx x) (fhcN x) ∈ fhtbl := match x, hx with
  | 0, _ => gin_0
  | 1, _ => gin_1
  | 2, _ => gin_2
  | 3, _ => gin_3
  | 4, _ => gin_4
  | 5, _ => gin_5
  | 6, _ => gin_6
  | 7, _ => gin_7
  | 8, _ => gin_8
  | 9, _ => gin_9
  | 10, _ => gin_10
  | 11, _ => gin_11
  | 12, _ => gin_12
  | n + 13, h => absurd h (by omega)
def gnwt : List (Nat × Nat × Nat) := [(0, 9, 2), (1, 9, 2), (3, 9, 2), (4, 9, 0), (4, 18, 2), (6, 11, 2), (7, 9, 3), (7, 18, 2), (8, 9, 2), (9, 9, 2), (10, 9, 2), (11, 9, 2), (11, 18, 8), (11, 25, 3), (11, 32, 5), (11, 41, 10), (11, 48, 7), (11, 60, 9), (11, 67, 4), (11, 76, 1), (11, 83, 6)]
set_option maxRecDepth 100000 in
theorem gnwt_ok : ∀ q ∈ gnwt, q.2.2 < 13 ∧ Cond.classLink (fhrx q.1) q.2.1 (fhrx q.2.2) ∈ fhtbl :=
    List.forall_mem_cons.mpr ⟨⟨by decide, fhm (in_t (in_2 (List.mem_of_getElem? (i := 51) rfl))) rfl⟩,
    List.forall_mem_cons.mpr ⟨⟨by decide, fhm (in_t (in_2 (List.mem_of_getElem? (i := 133) rfl))) rfl⟩,
    List.forall_mem_cons.mpr ⟨⟨by decide, fhm (in_t (in_1 (List.mem_of_getElem? (i := 95) rfl))) rfl⟩,
    List.forall_mem_cons.mpr ⟨⟨by decide, fhm (in_t (in_2 (List.mem_of_getElem? (i := 45) rfl))) rfl⟩,
    List.forall_mem_cons.mpr ⟨⟨by decide, fhm (in_t (in_2 (List.mem_of_getElem? (i := 74) rfl))) rfl⟩,
    List.forall_mem_cons.mpr ⟨⟨by decide, fhm (in_t (in_2 (List.mem_of_getElem? (i := 187) rfl))) rfl⟩,
    List.forall_mem_cons.mpr ⟨⟨by decide, fhm (in_t (in_1 (List.mem_of_getElem? (i := 153) rfl))) rfl⟩,
    List.forall_mem_cons.mpr ⟨⟨by decide, fhm (in_t (in_1 (List.mem_of_getElem? (i := 155) rfl))) rfl⟩,
    List.forall_mem_cons.mpr ⟨⟨by decide, fhm (in_t (in_1 (List.mem_of_getElem? (i := 48) rfl))) rfl⟩,
    List.forall_mem_cons.mpr ⟨⟨by decide, fhm (in_t (in_1 (List.mem_of_getElem? (i := 218) rfl))) rfl⟩,
    List.forall_mem_cons.mpr ⟨⟨by decide, fhm (in_t (in_1 (List.mem_of_getElem? (i := 135) rfl))) rfl⟩,
    List.forall_mem_cons.mpr ⟨⟨by decide, fhm (in_t (in_1 (List.mem_of_getElem? (i := 28) rfl))) rfl⟩,
    List.forall_mem_cons.mpr ⟨⟨by decide, fhm (in_t (in_1 (List.mem_of_getElem? (i := 42) rfl))) rfl⟩,
    List.forall_mem_cons.mpr ⟨⟨by decide, fhm (in_t (in_1 (List.mem_of_getElem? (i := 89) rfl))) rfl⟩,
    List.forall_mem_cons.mpr ⟨⟨by decide, fhm (in_t (in_1 (List.mem_of_getElem? (i := 107) rfl))) rfl⟩,
    List.forall_mem_cons.mpr ⟨⟨by decide, fhm (in_t (in_1 (List.mem_of_getElem? (i := 129) rfl))) rfl⟩,
    List.forall_mem_cons.mpr ⟨⟨by decide, fhm (in_t (in_1 (List.mem_of_getElem? (i := 147) rfl))) rfl⟩,
    List.forall_mem_cons.mpr ⟨⟨by decide, fhm (in_t (in_1 (List.mem_of_getElem? (i := 212) rfl))) rfl⟩,
    List.forall_mem_cons.mpr ⟨⟨by decide, fhm (in_t (in_2 (List.mem_of_getElem? (i := 39) rfl))) rfl⟩,
    List.forall_mem_cons.mpr ⟨⟨by decide, fhm (in_t (in_2 (List.mem_of_getElem? (i := 127) rfl))) rfl⟩,
    List.forall_mem_cons.mpr ⟨⟨by decide, fhm (in_t (in_2 (List.mem_of_getElem? (i := 181) rfl))) rfl⟩, fun _ h => absurd h List.not_mem_nil⟩⟩⟩⟩⟩⟩⟩⟩⟩⟩⟩⟩⟩⟩⟩⟩⟩⟩⟩⟩⟩
def glkt : List (Nat × Nat × Nat) := [(0, 11, 2), (1, 11, 2), (3, 11, 2), (4, 20, 2), (6, 13, 2), (7, 20, 2), (8, 13, 2), (9, 11, 2), (10, 11, 2), (11, 11, 2), (11, 34, 5), (11, 50, 7), (11, 69, 4), (11, 78, 1)]
set_option maxRecDepth 100000 in
theorem glkt_ok : ∀ q ∈ glkt, q.2.2 < 13 ∧ Cond.methodLink (fhrx q.1) q.2.1 (gy q.2.2) ∈ fhtbl :=
    List.forall_mem_cons.mpr ⟨⟨by decide, fhm (in_t (in_2 (List.mem_of_getElem? (i := 52) rfl))) rfl⟩,
    List.forall_mem_cons.mpr ⟨⟨by decide, fhm (in_t (in_2 (List.mem_of_getElem? (i := 134) rfl))) rfl⟩,
    List.forall_mem_cons.mpr ⟨⟨by decide, fhm (in_t (in_1 (List.mem_of_getElem? (i := 96) rfl))) rfl⟩,
    List.forall_mem_cons.mpr ⟨⟨by decide, fhm (in_t (in_2 (List.mem_of_getElem? (i := 75) rfl))) rfl⟩,
    List.forall_mem_cons.mpr ⟨⟨by decide, fhm (in_t (in_2 (List.mem_of_getElem? (i := 188) rfl))) rfl⟩,
    List.forall_mem_cons.mpr ⟨⟨by decide, fhm (in_t (in_1 (List.mem_of_getElem? (i := 156) rfl))) rfl⟩,
    List.forall_mem_cons.mpr ⟨⟨by decide, fhm (in_t (in_1 (List.mem_of_getElem? (i := 49) rfl))) rfl⟩,
    List.forall_mem_cons.mpr ⟨⟨by decide, fhm (in_t (in_1 (List.mem_of_getElem? (i := 219) rfl))) rfl⟩,
    List.forall_mem_cons.mpr ⟨⟨by decide, fhm (in_t (in_1 (List.mem_of_getElem? (i := 136) rfl))) rfl⟩,
    List.forall_mem_cons.mpr ⟨⟨by decide, fhm (in_t (in_1 (List.mem_of_getElem? (i := 30) rfl))) rfl⟩,
    List.forall_mem_cons.mpr ⟨⟨by decide, fhm (in_t (in_1 (List.mem_of_getElem? (i := 109) rfl))) rfl⟩,
    List.forall_mem_cons.mpr ⟨⟨by decide, fhm (in_t (in_1 (List.mem_of_getElem? (i := 149) rfl))) rfl⟩,
    List.forall_mem_cons.mpr ⟨⟨by decide, fhm (in_t (in_2 (List.mem_of_getElem? (i := 41) rfl))) rfl⟩,
    List.forall_mem_cons.mpr ⟨⟨by decide, fhm (in_t (in_2 (List.mem_of_getElem? (i := 129) rfl))) rfl⟩, fun _ h => absurd h List.not_mem_nil⟩⟩⟩⟩⟩⟩⟩⟩⟩⟩⟩⟩⟩⟩
def gnst : List (Nat × Nat × Nat) := [(4, 11, 0), (7, 11, 3), (11, 20, 8), (11, 27, 3), (11, 43, 10), (11, 62, 9), (11, 85, 6)]
theorem gnst_ok : ∀ q ∈ gnst, q.2.2 < 13 := by decide
theorem gnst_m : ∀ q ∈ gnst, Cond.methodLinkNest (fhrx q.1) q.2.1 (gy q.2.2) RX11 ∈ lw_tbl :=
    List.forall_mem_cons.mpr ⟨in_t (in_2 (List.mem_of_getElem? (i := 47) rfl)),
    List.forall_mem_cons.mpr ⟨in_t (in_1 (List.mem_of_getElem? (i := 154) rfl)),
    List.forall_mem_cons.mpr ⟨in_t (in_1 (List.mem_of_getElem? (i := 44) rfl)),
    List.forall_mem_cons.mpr ⟨in_t (in_1 (List.mem_of_getElem? (i := 91) rfl)),
    List.forall_mem_cons.mpr ⟨in_t (in_1 (List.mem_of_getElem? (i := 131) rfl)),
    List.forall_mem_cons.mpr ⟨in_t (in_1 (List.mem_of_getElem? (i := 214) rfl)),
    List.forall_mem_cons.mpr ⟨in_t (in_2 (List.mem_of_getElem? (i := 183) rfl)), fun _ h => absurd h List.not_mem_nil⟩⟩⟩⟩⟩⟩⟩
def gobt : List (Nat × Nat) := [(0, 3), (1, 3), (2, 1), (3, 3), (4, 3), (5, 3), (6, 5), (7, 3), (8, 3), (9, 3), (10, 3), (11, 3), (12, 1)]
set_option maxRecDepth 100000 in
theorem gobt_ok : ∀ q ∈ gobt, Cond.methodLink (fhrx q.1) q.2 objectInit ∈ fhtbl :=
    List.forall_mem_cons.mpr ⟨fhm (in_t (in_2 (List.mem_of_getElem? (i := 50) rfl))) rfl,
    List.forall_mem_cons.mpr ⟨fhm (in_t (in_2 (List.mem_of_getElem? (i := 132) rfl))) rfl,
    List.forall_mem_cons.mpr ⟨fhm (in_t (in_1 (List.mem_of_getElem? (i := 33) rfl))) rfl,
    List.forall_mem_cons.mpr ⟨fhm (in_t (in_1 (List.mem_of_getElem? (i := 94) rfl))) rfl,
    List.forall_mem_cons.mpr ⟨fhm (in_t (in_2 (List.mem_of_getElem? (i := 44) rfl))) rfl,
    List.forall_mem_cons.mpr ⟨fhm (in_t (in_1 (List.mem_of_getElem? (i := 112) rfl))) rfl,
    List.forall_mem_cons.mpr ⟨fhm (in_t (in_2 (List.mem_of_getElem? (i := 186) rfl))) rfl,
    List.forall_mem_cons.mpr ⟨fhm (in_t (in_1 (List.mem_of_getElem? (i := 152) rfl))) rfl,
    List.forall_mem_cons.mpr ⟨fhm (in_t (in_1 (List.mem_of_getElem? (i := 47) rfl))) rfl,
    List.forall_mem_cons.mpr ⟨fhm (in_t (in_1 (List.mem_of_getElem? (i := 217) rfl))) rfl,
    List.forall_mem_cons.mpr ⟨fhm (in_t (in_1 (List.mem_of_getElem? (i := 134) rfl))) rfl,
    List.forall_mem_cons.mpr ⟨fhm (in_t (in_1 (List.mem_of_getElem? (i := 25) rfl))) rfl,
    List.forall_mem_cons.mpr ⟨fhm (in_t (in_6 (List.mem_of_getElem? (i := 112) rfl))) rfl, fun _ h => absurd h List.not_mem_nil⟩⟩⟩⟩⟩⟩⟩⟩⟩⟩⟩⟩⟩
def gpt_0 : List (Nat × Nat × Nat) := [(0, 14, 0), (0, 20, 1), (0, 23, 4)]
set_option maxRecDepth 100000 in
theorem gpt_0_ok : ∀ q ∈ gpt_0, (q.1 = 0 ∧ q.2.2 < fhcN 0) ∧ Cond.fieldLink (fhrx 0) q.2.1 (fhcT 0 q.2.2).1 (fhcT 0 q.2.2).2.1 (fhcT 0 q.2.2).2.2.1 ∈ fhtbl :=
    List.forall_mem_cons.mpr ⟨⟨⟨rfl, by decide⟩, fhm (in_t (in_2 (List.mem_of_getElem? (i := 53) rfl))) rfl⟩,
    List.forall_mem_cons.mpr ⟨⟨⟨rfl, by decide⟩, fhm (in_t (in_2 (List.mem_of_getElem? (i := 54) rfl))) rfl⟩,
    List.forall_mem_cons.mpr ⟨⟨⟨rfl, by decide⟩, fhm (in_t (in_2 (List.mem_of_getElem? (i := 57) rfl))) rfl⟩, fun _ h => absurd h List.not_mem_nil⟩⟩⟩
def gpt_1 : List (Nat × Nat × Nat) := [(1, 14, 1), (1, 20, 2), (1, 23, 3), (1, 26, 4), (1, 29, 7), (1, 32, 8), (1, 35, 10), (1, 38, 11), (1, 41, 0)]
set_option maxRecDepth 100000 in
theorem gpt_1_ok : ∀ q ∈ gpt_1, (q.1 = 1 ∧ q.2.2 < fhcN 1) ∧ Cond.fieldLink (fhrx 1) q.2.1 (fhcT 1 q.2.2).1 (fhcT 1 q.2.2).2.1 (fhcT 1 q.2.2).2.2.1 ∈ fhtbl :=
    List.forall_mem_cons.mpr ⟨⟨⟨rfl, by decide⟩, fhm (in_t (in_2 (List.mem_of_getElem? (i := 136) rfl))) rfl⟩,
    List.forall_mem_cons.mpr ⟨⟨⟨rfl, by decide⟩, fhm (in_t (in_2 (List.mem_of_getElem? (i := 137) rfl))) rfl⟩,
    List.forall_mem_cons.mpr ⟨⟨⟨rfl, by decide⟩, fhm (in_t (in_2 (List.mem_of_getElem? (i := 138) rfl))) rfl⟩,
    List.forall_mem_cons.mpr ⟨⟨⟨rfl, by decide⟩, fhm (in_t (in_2 (List.mem_of_getElem? (i := 139) rfl))) rfl⟩,
    List.forall_mem_cons.mpr ⟨⟨⟨rfl, by decide⟩, fhm (in_t (in_2 (List.mem_of_getElem? (i := 142) rfl))) rfl⟩,
    List.forall_mem_cons.mpr ⟨⟨⟨rfl, by decide⟩, fhm (in_t (in_2 (List.mem_of_getElem? (i := 143) rfl))) rfl⟩,
    List.forall_mem_cons.mpr ⟨⟨⟨rfl, by decide⟩, fhm (in_t (in_2 (List.mem_of_getElem? (i := 145) rfl))) rfl⟩,
    List.forall_mem_cons.mpr ⟨⟨⟨rfl, by decide⟩, fhm (in_t (in_2 (List.mem_of_getElem? (i := 146) rfl))) rfl⟩,
    List.forall_mem_cons.mpr ⟨⟨⟨rfl, by decide⟩, fhm (in_t (in_2 (List.mem_of_getElem? (i := 135) rfl))) rfl⟩, fun _ h => absurd h List.not_mem_nil⟩⟩⟩⟩⟩⟩⟩⟩⟩
def gpt_2 : List (Nat × Nat × Nat) := [(2, 13, 0)]
set_option maxRecDepth 100000 in
theorem gpt_2_ok : ∀ q ∈ gpt_2, (q.1 = 2 ∧ q.2.2 < fhcN 2) ∧ Cond.fieldLink (fhrx 2) q.2.1 (fhcT 2 q.2.2).1 (fhcT 2 q.2.2).2.1 (fhcT 2 q.2.2).2.2.1 ∈ fhtbl :=
    List.forall_mem_cons.mpr ⟨⟨⟨rfl, by decide⟩, fhm (in_t (in_1 (List.mem_of_getElem? (i := 37) rfl))) rfl⟩, fun _ h => absurd h List.not_mem_nil⟩
def gpt_3 : List (Nat × Nat × Nat) := [(3, 14, 0)]
set_option maxRecDepth 100000 in
theorem gpt_3_ok : ∀ q ∈ gpt_3, (q.1 = 3 ∧ q.2.2 < fhcN 3) ∧ Cond.fieldLink (fhrx 3) q.2.1 (fhcT 3 q.2.2).1 (fhcT 3 q.2.2).2.1 (fhcT 3 q.2.2).2.2.1 ∈ fhtbl :=
    List.forall_mem_cons.mpr ⟨⟨⟨rfl, by decide⟩, fhm (in_t (in_1 (List.mem_of_getElem? (i := 97) rfl))) rfl⟩, fun _ h => absurd h List.not_mem_nil⟩
def gpt_4 : List (Nat × Nat × Nat) := [(4, 12, 0), (4, 23, 1), (4, 27, 2), (4, 30, 3), (4, 33, 4), (4, 36, 6), (4, 39, 7), (4, 42, 5)]
set_option maxRecDepth 100000 in
theorem gpt_4_ok : ∀ q ∈ gpt_4, (q.1 = 4 ∧ q.2.2 < fhcN 4) ∧ Cond.fieldLink (fhrx 4) q.2.1 (fhcT 4 q.2.2).1 (fhcT 4 q.2.2).2.1 (fhcT 4 q.2.2).2.2.1 ∈ fhtbl :=
    List.forall_mem_cons.mpr ⟨⟨⟨rfl, by decide⟩, fhm (in_t (in_2 (List.mem_of_getElem? (i := 76) rfl))) rfl⟩,
    List.forall_mem_cons.mpr ⟨⟨⟨rfl, by decide⟩, fhm (in_t (in_2 (List.mem_of_getElem? (i := 77) rfl))) rfl⟩,
    List.forall_mem_cons.mpr ⟨⟨⟨rfl, by decide⟩, fhm (in_t (in_2 (List.mem_of_getElem? (i := 78) rfl))) rfl⟩,
    List.forall_mem_cons.mpr ⟨⟨⟨rfl, by decide⟩, fhm (in_t (in_2 (List.mem_of_getElem? (i := 79) rfl))) rfl⟩,
    List.forall_mem_cons.mpr ⟨⟨⟨rfl, by decide⟩, fhm (in_t (in_2 (List.mem_of_getElem? (i := 80) rfl))) rfl⟩,
    List.forall_mem_cons.mpr ⟨⟨⟨rfl, by decide⟩, fhm (in_t (in_2 (List.mem_of_getElem? (i := 85) rfl))) rfl⟩,
    List.forall_mem_cons.mpr ⟨⟨⟨rfl, by decide⟩, fhm (in_t (in_2 (List.mem_of_getElem? (i := 89) rfl))) rfl⟩,
    List.forall_mem_cons.mpr ⟨⟨⟨rfl, by decide⟩, fhm (in_t (in_2 (List.mem_of_getElem? (i := 81) rfl))) rfl⟩, fun _ h => absurd h List.not_mem_nil⟩⟩⟩⟩⟩⟩⟩⟩
def gpt_5 : List (Nat × Nat × Nat) := [(5, 9, 0), (5, 15, 1)]
set_option maxRecDepth 100000 in
theorem gpt_5_ok : ∀ q ∈ gpt_5, (q.1 = 5 ∧ q.2.2 < fhcN 5) ∧ Cond.fieldLink (fhrx 5) q.2.1 (fhcT 5 q.2.2).1 (fhcT 5 q.2.2).2.1 (fhcT 5 q.2.2).2.2.1 ∈ fhtbl :=
    List.forall_mem_cons.mpr ⟨⟨⟨rfl, by decide⟩, fhm (in_t (in_1 (List.mem_of_getElem? (i := 113) rfl))) rfl⟩,
    List.forall_mem_cons.mpr ⟨⟨⟨rfl, by decide⟩, fhm (in_t (in_1 (List.mem_of_getElem? (i := 114) rfl))) rfl⟩, fun _ h => absurd h List.not_mem_nil⟩⟩
def gpt_6 : List (Nat × Nat × Nat) := [(6, 16, 0), (6, 20, 2)]
set_option maxRecDepth 100000 in
theorem gpt_6_ok : ∀ q ∈ gpt_6, (q.1 = 6 ∧ q.2.2 < fhcN 6) ∧ Cond.fieldLink (fhrx 6) q.2.1 (fhcT 6 q.2.2).1 (fhcT 6 q.2.2).2.1 (fhcT 6 q.2.2).2.2.1 ∈ fhtbl :=
    List.forall_mem_cons.mpr ⟨⟨⟨rfl, by decide⟩, fhm (in_t (in_2 (List.mem_of_getElem? (i := 189) rfl))) rfl⟩,
    List.forall_mem_cons.mpr ⟨⟨⟨rfl, by decide⟩, fhm (in_t (in_2 (List.mem_of_getElem? (i := 191) rfl))) rfl⟩, fun _ h => absurd h List.not_mem_nil⟩⟩
def gpt_7 : List (Nat × Nat × Nat) := [(7, 12, 2), (7, 23, 3), (7, 27, 4), (7, 30, 5), (7, 33, 7), (7, 36, 0), (7, 40, 1)]
set_option maxRecDepth 100000 in
theorem gpt_7_ok : ∀ q ∈ gpt_7, (q.1 = 7 ∧ q.2.2 < fhcN 7) ∧ Cond.fieldLink (fhrx 7) q.2.1 (fhcT 7 q.2.2).1 (fhcT 7 q.2.2).2.1 (fhcT 7 q.2.2).2.2.1 ∈ fhtbl :=
    List.forall_mem_cons.mpr ⟨⟨⟨rfl, by decide⟩, fhm (in_t (in_1 (List.mem_of_getElem? (i := 159) rfl))) rfl⟩,
    List.forall_mem_cons.mpr ⟨⟨⟨rfl, by decide⟩, fhm (in_t (in_1 (List.mem_of_getElem? (i := 160) rfl))) rfl⟩,
    List.forall_mem_cons.mpr ⟨⟨⟨rfl, by decide⟩, fhm (in_t (in_1 (List.mem_of_getElem? (i := 161) rfl))) rfl⟩,
    List.forall_mem_cons.mpr ⟨⟨⟨rfl, by decide⟩, fhm (in_t (in_1 (List.mem_of_getElem? (i := 162) rfl))) rfl⟩,
    List.forall_mem_cons.mpr ⟨⟨⟨rfl, by decide⟩, fhm (in_t (in_1 (List.mem_of_getElem? (i := 164) rfl))) rfl⟩,
    List.forall_mem_cons.mpr ⟨⟨⟨rfl, by decide⟩, fhm (in_t (in_1 (List.mem_of_getElem? (i := 157) rfl))) rfl⟩,
    List.forall_mem_cons.mpr ⟨⟨⟨rfl, by decide⟩, fhm (in_t (in_1 (List.mem_of_getElem? (i := 158) rfl))) rfl⟩, fun _ h => absurd h List.not_mem_nil⟩⟩⟩⟩⟩⟩⟩
def gpt_8 : List (Nat × Nat × Nat) := [(8, 16, 0)]
set_option maxRecDepth 100000 in
theorem gpt_8_ok : ∀ q ∈ gpt_8, (q.1 = 8 ∧ q.2.2 < fhcN 8) ∧ Cond.fieldLink (fhrx 8) q.2.1 (fhcT 8 q.2.2).1 (fhcT 8 q.2.2).2.1 (fhcT 8 q.2.2).2.2.1 ∈ fhtbl :=
    List.forall_mem_cons.mpr ⟨⟨⟨rfl, by decide⟩, fhm (in_t (in_1 (List.mem_of_getElem? (i := 50) rfl))) rfl⟩, fun _ h => absurd h List.not_mem_nil⟩
def gpt_9 : List (Nat × Nat × Nat) := [(9, 14, 0), (9, 20, 1), (9, 23, 2), (9, 26, 3), (9, 29, 4), (9, 32, 6), (9, 35, 7), (9, 38, 8)]
set_option maxRecDepth 100000 in
theorem gpt_9_ok : ∀ q ∈ gpt_9, (q.1 = 9 ∧ q.2.2 < fhcN 9) ∧ Cond.fieldLink (fhrx 9) q.2.1 (fhcT 9 q.2.2).1 (fhcT 9 q.2.2).2.1 (fhcT 9 q.2.2).2.2.1 ∈ fhtbl :=
    List.forall_mem_cons.mpr ⟨⟨⟨rfl, by decide⟩, fhm (in_t (in_1 (List.mem_of_getElem? (i := 220) rfl))) rfl⟩,
    List.forall_mem_cons.mpr ⟨⟨⟨rfl, by decide⟩, fhm (in_t (in_1 (List.mem_of_getElem? (i := 221) rfl))) rfl⟩,
    List.forall_mem_cons.mpr ⟨⟨⟨rfl, by decide⟩, fhm (in_t (in_1 (List.mem_of_getElem? (i := 222) rfl))) rfl⟩,
    List.forall_mem_cons.mpr ⟨⟨⟨rfl, by decide⟩, fhm (in_t (in_1 (List.mem_of_getElem? (i := 223) rfl))) rfl⟩,
    List.forall_mem_cons.mpr ⟨⟨⟨rfl, by decide⟩, fhm (in_t (in_1 (List.mem_of_getElem? (i := 224) rfl))) rfl⟩,
    List.forall_mem_cons.mpr ⟨⟨⟨rfl, by decide⟩, fhm (in_t (in_1 (List.mem_of_getElem? (i := 227) rfl))) rfl⟩,
    List.forall_mem_cons.mpr ⟨⟨⟨rfl, by decide⟩, fhm (in_t (in_1 (List.mem_of_getElem? (i := 230) rfl))) rfl⟩,
    List.forall_mem_cons.mpr ⟨⟨⟨rfl, by decide⟩, fhm (in_t (in_1 (List.mem_of_getElem? (i := 233) rfl))) rfl⟩, fun _ h => absurd h List.not_mem_nil⟩⟩⟩⟩⟩⟩⟩⟩
def gpt_10 : List (Nat × Nat × Nat) := [(10, 14, 0), (10, 20, 1)]
set_option maxRecDepth 100000 in
theorem gpt_10_ok : ∀ q ∈ gpt_10, (q.1 = 10 ∧ q.2.2 < fhcN 10) ∧ Cond.fieldLink (fhrx 10) q.2.1 (fhcT 10 q.2.2).1 (fhcT 10 q.2.2).2.1 (fhcT 10 q.2.2).2.2.1 ∈ fhtbl :=
    List.forall_mem_cons.mpr ⟨⟨⟨rfl, by decide⟩, fhm (in_t (in_1 (List.mem_of_getElem? (i := 137) rfl))) rfl⟩,
    List.forall_mem_cons.mpr ⟨⟨⟨rfl, by decide⟩, fhm (in_t (in_1 (List.mem_of_getElem? (i := 138) rfl))) rfl⟩, fun _ h => absurd h List.not_mem_nil⟩⟩
def gpt_11 : List (Nat × Nat × Nat) := [(11, 14, 0), (11, 21, 2), (11, 28, 3), (11, 37, 4), (11, 44, 5), (11, 53, 6), (11, 57, 7), (11, 63, 9), (11, 72, 10), (11, 79, 11), (11, 86, 12), (11, 90, 13), (11, 93, 15), (11, 96, 16), (11, 100, 18)]
set_option maxRecDepth 100000 in
theorem gpt_11_ok : ∀ q ∈ gpt_11, (q.1 = 11 ∧ q.2.2 < fhcN 11) ∧ Cond.fieldLink (fhrx 11) q.2.1 (fhcT 11 q.2.2).1 (fhcT 11 q.2.2).2.1 (fhcT 11 q.2.2).2.2.1 ∈ fhtbl :=
    List.forall_mem_cons.mpr ⟨⟨⟨rfl, by decide⟩, fhm (in_t (in_2 (List.mem_of_getElem? (i := 206) rfl))) rfl⟩,
    List.forall_mem_cons.mpr ⟨⟨⟨rfl, by decide⟩, fhm (in_t (in_2 (List.mem_of_getElem? (i := 208) rfl))) rfl⟩,
    List.forall_mem_cons.mpr ⟨⟨⟨rfl, by decide⟩, fhm (in_t (in_2 (List.mem_of_getElem? (i := 209) rfl))) rfl⟩,
    List.forall_mem_cons.mpr ⟨⟨⟨rfl, by decide⟩, fhm (in_t (in_2 (List.mem_of_getElem? (i := 210) rfl))) rfl⟩,
    List.forall_mem_cons.mpr ⟨⟨⟨rfl, by decide⟩, fhm (in_t (in_2 (List.mem_of_getElem? (i := 211) rfl))) rfl⟩,
    List.forall_mem_cons.mpr ⟨⟨⟨rfl, by decide⟩, fhm (in_t (in_2 (List.mem_of_getElem? (i := 212) rfl))) rfl⟩,
    List.forall_mem_cons.mpr ⟨⟨⟨rfl, by decide⟩, fhm (in_t (in_2 (List.mem_of_getElem? (i := 213) rfl))) rfl⟩,
    List.forall_mem_cons.mpr ⟨⟨⟨rfl, by decide⟩, fhm (in_t (in_2 (List.mem_of_getElem? (i := 215) rfl))) rfl⟩,
    List.forall_mem_cons.mpr ⟨⟨⟨rfl, by decide⟩, fhm (in_t (in_2 (List.mem_of_getElem? (i := 216) rfl))) rfl⟩,
    List.forall_mem_cons.mpr ⟨⟨⟨rfl, by decide⟩, fhm (in_t (in_2 (List.mem_of_getElem? (i := 217) rfl))) rfl⟩,
    List.forall_mem_cons.mpr ⟨⟨⟨rfl, by decide⟩, fhm (in_t (in_2 (List.mem_of_getElem? (i := 218) rfl))) rfl⟩,
    List.forall_mem_cons.mpr ⟨⟨⟨rfl, by decide⟩, fhm (in_t (in_2 (List.mem_of_getElem? (i := 219) rfl))) rfl⟩,
    List.forall_mem_cons.mpr ⟨⟨⟨rfl, by decide⟩, fhm (in_t (in_2 (List.mem_of_getElem? (i := 221) rfl))) rfl⟩,
    List.forall_mem_cons.mpr ⟨⟨⟨rfl, by decide⟩, fhm (in_t (in_2 (List.mem_of_getElem? (i := 222) rfl))) rfl⟩,
    List.forall_mem_cons.mpr ⟨⟨⟨rfl, by decide⟩, fhm (in_t (in_2 (List.mem_of_getElem? (i := 224) rfl))) rfl⟩, fun _ h => absurd h List.not_mem_nil⟩⟩⟩⟩⟩⟩⟩⟩⟩⟩⟩⟩⟩⟩⟩
def gpt_12 : List (Nat × Nat × Nat) := [(12, 7, 0), (12, 13, 8), (12, 17, 9), (12, 20, 11), (12, 24, 12), (12, 27, 13), (12, 30, 14), (12, 33, 15), (12, 36, 16), (12, 39, 17), (12, 42, 18), (12, 45, 19), (12, 48, 20), (12, 51, 21), (12, 54, 22), (12, 57, 23), (12, 60, 24), (12, 63, 25), (12, 66, 26), (12, 69, 27), (12, 72, 28), (12, 75, 29), (12, 78, 30), (12, 81, 31), (12, 84, 32), (12, 87, 33), (12, 90, 34), (12, 93, 35), (12, 96, 36), (12, 99, 38), (12, 102, 39), (12, 106, 40), (12, 109, 41), (12, 112, 42), (12, 115, 43), (12, 118, 44), (12, 121, 49), (12, 124, 54), (12, 128, 55), (12, 131, 56), (12, 134, 57), (12, 137, 58), (12, 140, 59), (12, 144, 60), (12, 147, 61), (12, 150, 63), (12, 153, 64), (12, 156, 65), (12, 159, 66), (12, 162, 67), (12, 165, 69), (12, 168, 70), (12, 171, 73), (12, 175, 74), (12, 178, 75), (12, 181, 76), (12, 184, 77), (12, 187, 78), (12, 190, 79), (12, 193, 80), (12, 196, 81), (12, 199, 82), (12, 202, 83), (12, 205, 84), (12, 208, 85), (12, 211, 86), (12, 214, 87), (12, 217, 88), (12, 220, 89), (12, 223, 90), (12, 226, 91), (12, 229, 92), (12, 232, 93), (12, 235, 94), (12, 238, 95), (12, 241, 96), (12, 244, 97), (12, 247, 98), (12, 250, 100), (12, 253, 104), (12, 256, 108)]
set_option maxRecDepth 100000 in
theorem gpt_12_ok : ∀ q ∈ gpt_12, (q.1 = 12 ∧ q.2.2 < fhcN 12) ∧ Cond.fieldLink (fhrx 12) q.2.1 (fhcT 12 q.2.2).1 (fhcT 12 q.2.2).2.1 (fhcT 12 q.2.2).2.2.1 ∈ fhtbl :=
    List.forall_mem_cons.mpr ⟨⟨⟨rfl, by decide⟩, fhm (in_t (in_6 (List.mem_of_getElem? (i := 114) rfl))) rfl⟩,
    List.forall_mem_cons.mpr ⟨⟨⟨rfl, by decide⟩, fhm (in_t (in_6 (List.mem_of_getElem? (i := 122) rfl))) rfl⟩,
    List.forall_mem_cons.mpr ⟨⟨⟨rfl, by decide⟩, fhm (in_t (in_6 (List.mem_of_getElem? (i := 123) rfl))) rfl⟩,
    List.forall_mem_cons.mpr ⟨⟨⟨rfl, by decide⟩, fhm (in_t (in_6 (List.mem_of_getElem? (i := 125) rfl))) rfl⟩,
    List.forall_mem_cons.mpr ⟨⟨⟨rfl, by decide⟩, fhm (in_t (in_6 (List.mem_of_getElem? (i := 126) rfl))) rfl⟩,
    List.forall_mem_cons.mpr ⟨⟨⟨rfl, by decide⟩, fhm (in_t (in_6 (List.mem_of_getElem? (i := 127) rfl))) rfl⟩,
    List.forall_mem_cons.mpr ⟨⟨⟨rfl, by decide⟩, fhm (in_t (in_6 (List.mem_of_getElem? (i := 128) rfl))) rfl⟩,
    List.forall_mem_cons.mpr ⟨⟨⟨rfl, by decide⟩, fhm (in_t (in_6 (List.mem_of_getElem? (i := 129) rfl))) rfl⟩,
    List.forall_mem_cons.mpr ⟨⟨⟨rfl, by decide⟩, fhm (in_t (in_6 (List.mem_of_getElem? (i := 130) rfl))) rfl⟩,
    List.forall_mem_cons.mpr ⟨⟨⟨rfl, by decide⟩, fhm (in_t (in_6 (List.mem_of_getElem? (i := 131) rfl))) rfl⟩,
    List.forall_mem_cons.mpr ⟨⟨⟨rfl, by decide⟩, fhm (in_t (in_6 (List.mem_of_getElem? (i := 132) rfl))) rfl⟩,
    List.forall_mem_cons.mpr ⟨⟨⟨rfl, by decide⟩, fhm (in_t (in_6 (List.mem_of_getElem? (i := 133) rfl))) rfl⟩,
    List.forall_mem_cons.mpr ⟨⟨⟨rfl, by decide⟩, fhm (in_t (in_6 (List.mem_of_getElem? (i := 134) rfl))) rfl⟩,
    List.forall_mem_cons.mpr ⟨⟨⟨rfl, by decide⟩, fhm (in_t (in_6 (List.mem_of_getElem? (i := 135) rfl))) rfl⟩,
    List.forall_mem_cons.mpr ⟨⟨⟨rfl, by decide⟩, fhm (in_t (in_6 (List.mem_of_getElem? (i := 136) rfl))) rfl⟩,
    List.forall_mem_cons.mpr ⟨⟨⟨rfl, by decide⟩, fhm (in_t (in_6 (List.mem_of_getElem? (i := 137) rfl))) rfl⟩,
    List.forall_mem_cons.mpr ⟨⟨⟨rfl, by decide⟩, fhm (in_t (in_6 (List.mem_of_getElem? (i := 138) rfl))) rfl⟩,
    List.forall_mem_cons.mpr ⟨⟨⟨rfl, by decide⟩, fhm (in_t (in_6 (List.mem_of_getElem? (i := 139) rfl))) rfl⟩,
    List.forall_mem_cons.mpr ⟨⟨⟨rfl, by decide⟩, fhm (in_t (in_6 (List.mem_of_getElem? (i := 140) rfl))) rfl⟩,
    List.forall_mem_cons.mpr ⟨⟨⟨rfl, by decide⟩, fhm (in_t (in_6 (List.mem_of_getElem? (i := 141) rfl))) rfl⟩,
    List.forall_mem_cons.mpr ⟨⟨⟨rfl, by decide⟩, fhm (in_t (in_6 (List.mem_of_getElem? (i := 142) rfl))) rfl⟩,
    List.forall_mem_cons.mpr ⟨⟨⟨rfl, by decide⟩, fhm (in_t (in_6 (List.mem_of_getElem? (i := 143) rfl))) rfl⟩,
    List.forall_mem_cons.mpr ⟨⟨⟨rfl, by decide⟩, fhm (in_t (in_6 (List.mem_of_getElem? (i := 144) rfl))) rfl⟩,
    List.forall_mem_cons.mpr ⟨⟨⟨rfl, by decide⟩, fhm (in_t (in_6 (List.mem_of_getElem? (i := 145) rfl))) rfl⟩,
    List.forall_mem_cons.mpr ⟨⟨⟨rfl, by decide⟩, fhm (in_t (in_6 (List.mem_of_getElem? (i := 146) rfl))) rfl⟩,
    List.forall_mem_cons.mpr ⟨⟨⟨rfl, by decide⟩, fhm (in_t (in_6 (List.mem_of_getElem? (i := 147) rfl))) rfl⟩,
    List.forall_mem_cons.mpr ⟨⟨⟨rfl, by decide⟩, fhm (in_t (in_6 (List.mem_of_getElem? (i := 148) rfl))) rfl⟩,
    List.forall_mem_cons.mpr ⟨⟨⟨rfl, by decide⟩, fhm (in_t (in_6 (List.mem_of_getElem? (i := 149) rfl))) rfl⟩,
    List.forall_mem_cons.mpr ⟨⟨⟨rfl, by decide⟩, fhm (in_t (in_6 (List.mem_of_getElem? (i := 150) rfl))) rfl⟩,
    List.forall_mem_cons.mpr ⟨⟨⟨rfl, by decide⟩, fhm (in_t (in_6 (List.mem_of_getElem? (i := 152) rfl))) rfl⟩,
    List.forall_mem_cons.mpr ⟨⟨⟨rfl, by decide⟩, fhm (in_t (in_6 (List.mem_of_getElem? (i := 153) rfl))) rfl⟩,
    List.forall_mem_cons.mpr ⟨⟨⟨rfl, by decide⟩, fhm (in_t (in_6 (List.mem_of_getElem? (i := 154) rfl))) rfl⟩,
    List.forall_mem_cons.mpr ⟨⟨⟨rfl, by decide⟩, fhm (in_t (in_6 (List.mem_of_getElem? (i := 155) rfl))) rfl⟩,
    List.forall_mem_cons.mpr ⟨⟨⟨rfl, by decide⟩, fhm (in_t (in_6 (List.mem_of_getElem? (i := 156) rfl))) rfl⟩,
    List.forall_mem_cons.mpr ⟨⟨⟨rfl, by decide⟩, fhm (in_t (in_6 (List.mem_of_getElem? (i := 157) rfl))) rfl⟩,
    List.forall_mem_cons.mpr ⟨⟨⟨rfl, by decide⟩, fhm (in_t (in_6 (List.mem_of_getElem? (i := 158) rfl))) rfl⟩,
    List.forall_mem_cons.mpr ⟨⟨⟨rfl, by decide⟩, fhm (in_t (in_6 (List.mem_of_getElem? (i := 163) rfl))) rfl⟩,
    List.forall_mem_cons.mpr ⟨⟨⟨rfl, by decide⟩, fhm (in_t (in_6 (List.mem_of_getElem? (i := 168) rfl))) rfl⟩,
    List.forall_mem_cons.mpr ⟨⟨⟨rfl, by decide⟩, fhm (in_t (in_6 (List.mem_of_getElem? (i := 169) rfl))) rfl⟩,
    List.forall_mem_cons.mpr ⟨⟨⟨rfl, by decide⟩, fhm (in_t (in_6 (List.mem_of_getElem? (i := 170) rfl))) rfl⟩,
    List.forall_mem_cons.mpr ⟨⟨⟨rfl, by decide⟩, fhm (in_t (in_6 (List.mem_of_getElem? (i := 171) rfl))) rfl⟩,
    List.forall_mem_cons.mpr ⟨⟨⟨rfl, by decide⟩, fhm (in_t (in_6 (List.mem_of_getElem? (i := 172) rfl))) rfl⟩,
    List.forall_mem_cons.mpr ⟨⟨⟨rfl, by decide⟩, fhm (in_t (in_6 (List.mem_of_getElem? (i := 173) rfl))) rfl⟩,
    List.forall_mem_cons.mpr ⟨⟨⟨rfl, by decide⟩, fhm (in_t (in_6 (List.mem_of_getElem? (i := 174) rfl))) rfl⟩,
    List.forall_mem_cons.mpr ⟨⟨⟨rfl, by decide⟩, fhm (in_t (in_6 (List.mem_of_getElem? (i := 175) rfl))) rfl⟩,
    List.forall_mem_cons.mpr ⟨⟨⟨rfl, by decide⟩, fhm (in_t (in_6 (List.mem_of_getElem? (i := 177) rfl))) rfl⟩,
    List.forall_mem_cons.mpr ⟨⟨⟨rfl, by decide⟩, fhm (in_t (in_6 (List.mem_of_getElem? (i := 178) rfl))) rfl⟩,
    List.forall_mem_cons.mpr ⟨⟨⟨rfl, by decide⟩, fhm (in_t (in_6 (List.mem_of_getElem? (i := 179) rfl))) rfl⟩,
    List.forall_mem_cons.mpr ⟨⟨⟨rfl, by decide⟩, fhm (in_t (in_6 (List.mem_of_getElem? (i := 180) rfl))) rfl⟩,
    List.forall_mem_cons.mpr ⟨⟨⟨rfl, by decide⟩, fhm (in_t (in_6 (List.mem_of_getElem? (i := 181) rfl))) rfl⟩,
    List.forall_mem_cons.mpr ⟨⟨⟨rfl, by decide⟩, fhm (in_t (in_6 (List.mem_of_getElem? (i := 183) rfl))) rfl⟩,
    List.forall_mem_cons.mpr ⟨⟨⟨rfl, by decide⟩, fhm (in_t (in_6 (List.mem_of_getElem? (i := 184) rfl))) rfl⟩,
    List.forall_mem_cons.mpr ⟨⟨⟨rfl, by decide⟩, fhm (in_t (in_6 (List.mem_of_getElem? (i := 187) rfl))) rfl⟩,
    List.forall_mem_cons.mpr ⟨⟨⟨rfl, by decide⟩, fhm (in_t (in_6 (List.mem_of_getElem? (i := 188) rfl))) rfl⟩,
    List.forall_mem_cons.mpr ⟨⟨⟨rfl, by decide⟩, fhm (in_t (in_6 (List.mem_of_getElem? (i := 189) rfl))) rfl⟩,
    List.forall_mem_cons.mpr ⟨⟨⟨rfl, by decide⟩, fhm (in_t (in_6 (List.mem_of_getElem? (i := 190) rfl))) rfl⟩,
    List.forall_mem_cons.mpr ⟨⟨⟨rfl, by decide⟩, fhm (in_t (in_6 (List.mem_of_getElem? (i := 191) rfl))) rfl⟩,
    List.forall_mem_cons.mpr ⟨⟨⟨rfl, by decide⟩, fhm (in_t (in_6 (List.mem_of_getElem? (i := 192) rfl))) rfl⟩,
    List.forall_mem_cons.mpr ⟨⟨⟨rfl, by decide⟩, fhm (in_t (in_6 (List.mem_of_getElem? (i := 193) rfl))) rfl⟩,
    List.forall_mem_cons.mpr ⟨⟨⟨rfl, by decide⟩, fhm (in_t (in_6 (List.mem_of_getElem? (i := 194) rfl))) rfl⟩,
    List.forall_mem_cons.mpr ⟨⟨⟨rfl, by decide⟩, fhm (in_t (in_6 (List.mem_of_getElem? (i := 195) rfl))) rfl⟩,
    List.forall_mem_cons.mpr ⟨⟨⟨rfl, by decide⟩, fhm (in_t (in_6 (List.mem_of_getElem? (i := 196) rfl))) rfl⟩,
    List.forall_mem_cons.mpr ⟨⟨⟨rfl, by decide⟩, fhm (in_t (in_6 (List.mem_of_getElem? (i := 197) rfl))) rfl⟩,
    List.forall_mem_cons.mpr ⟨⟨⟨rfl, by decide⟩, fhm (in_t (in_6 (List.mem_of_getElem? (i := 198) rfl))) rfl⟩,
    List.forall_mem_cons.mpr ⟨⟨⟨rfl, by decide⟩, fhm (in_t (in_6 (List.mem_of_getElem? (i := 199) rfl))) rfl⟩,
    List.forall_mem_cons.mpr ⟨⟨⟨rfl, by decide⟩, fhm (in_t (in_6 (List.mem_of_getElem? (i := 200) rfl))) rfl⟩,
    List.forall_mem_cons.mpr ⟨⟨⟨rfl, by decide⟩, fhm (in_t (in_6 (List.mem_of_getElem? (i := 201) rfl))) rfl⟩,
    List.forall_mem_cons.mpr ⟨⟨⟨rfl, by decide⟩, fhm (in_t (in_6 (List.mem_of_getElem? (i := 202) rfl))) rfl⟩,
    List.forall_mem_cons.mpr ⟨⟨⟨rfl, by decide⟩, fhm (in_t (in_6 (List.mem_of_getElem? (i := 203) rfl))) rfl⟩,
    List.forall_mem_cons.mpr ⟨⟨⟨rfl, by decide⟩, fhm (in_t (in_6 (List.mem_of_getElem? (i := 204) rfl))) rfl⟩,
    List.forall_mem_cons.mpr ⟨⟨⟨rfl, by decide⟩, fhm (in_t (in_6 (List.mem_of_getElem? (i := 205) rfl))) rfl⟩,
    List.forall_mem_cons.mpr ⟨⟨⟨rfl, by decide⟩, fhm (in_t (in_6 (List.mem_of_getElem? (i := 206) rfl))) rfl⟩,
    List.forall_mem_cons.mpr ⟨⟨⟨rfl, by decide⟩, fhm (in_t (in_6 (List.mem_of_getElem? (i := 207) rfl))) rfl⟩,
    List.forall_mem_cons.mpr ⟨⟨⟨rfl, by decide⟩, fhm (in_t (in_6 (List.mem_of_getElem? (i := 208) rfl))) rfl⟩,
    List.forall_mem_cons.mpr ⟨⟨⟨rfl, by decide⟩, fhm (in_t (in_6 (List.mem_of_getElem? (i := 209) rfl))) rfl⟩,
    List.forall_mem_cons.mpr ⟨⟨⟨rfl, by decide⟩, fhm (in_t (in_6 (List.mem_of_getElem? (i := 210) rfl))) rfl⟩,
    List.forall_mem_cons.mpr ⟨⟨⟨rfl, by decide⟩, fhm (in_t (in_6 (List.mem_of_getElem? (i := 211) rfl))) rfl⟩,
    List.forall_mem_cons.mpr ⟨⟨⟨rfl, by decide⟩, fhm (in_t (in_6 (List.mem_of_getElem? (i := 212) rfl))) rfl⟩,
    List.forall_mem_cons.mpr ⟨⟨⟨rfl, by decide⟩, fhm (in_t (in_6 (List.mem_of_getElem? (i := 214) rfl))) rfl⟩,
    List.forall_mem_cons.mpr ⟨⟨⟨rfl, by decide⟩, fhm (in_t (in_6 (List.mem_of_getElem? (i := 218) rfl))) rfl⟩,
    List.forall_mem_cons.mpr ⟨⟨⟨rfl, by decide⟩, fhm (in_t (in_6 (List.mem_of_getElem? (i := 222) rfl))) rfl⟩, fun _ h => absurd h List.not_mem_nil⟩⟩⟩⟩⟩⟩⟩⟩⟩⟩⟩⟩⟩⟩⟩⟩⟩⟩⟩⟩⟩⟩⟩⟩⟩⟩⟩⟩⟩⟩⟩⟩⟩⟩⟩⟩⟩⟩⟩⟩⟩⟩⟩⟩⟩⟩⟩⟩⟩⟩⟩⟩⟩⟩⟩⟩⟩⟩⟩⟩⟩⟩⟩⟩⟩⟩⟩⟩⟩⟩⟩⟩⟩⟩⟩⟩⟩⟩⟩⟩⟩
def gpt (x : Nat) : List (Nat × Nat × Nat) := match x with
  | 0 => gpt_0
  | 1 => gpt_1
  | 2 => gpt_2
  | 3 => gpt_3
  | 4 => gpt_4
  | 5 => gpt_5
  | 6 => gpt_6
  | 7 => gpt_7
  | 8 => gpt_8
  | 9 => gpt_9
  | 10 => gpt_10
  | 11 => gpt_11
  | _ => gpt_12
theorem gpt_ok (x : Nat) (hx : x < 13) : ∀ q ∈ gpt x, (q.1 = x ∧ q.2.2 < fhcN x) ∧ Cond.fieldLink (fhrx x) q.2.1 (fhcT x q.2.2).1 (fhcT x q.2.2).2.1 (fhcT x q.2.2).2.2.1 ∈ fhtbl := match x, hx with
  | 0, _ => gpt_0_ok
  | 1, _ => gpt_1_ok
  | 2, _ => gpt_2_ok
  | 3, _ => gpt_3_ok
  | 4, _ => gpt_4_ok
  | 5, _ => gpt_5_ok
  | 6, _ => gpt_6_ok
  | 7, _ => gpt_7_ok
  | 8, _ => gpt_8_ok
  | 9, _ => gpt_9_ok
  | 10, _ => gpt_10_ok
  | 11, _ => gpt_11_ok
  | 12, _ => gpt_12_ok
  | n + 13, h => absurd h (by omega)
theorem gdecl : ∀ x, x < 13 → ∀ j, j < fhcN x → (fhcT x j).1 = fhrx x := by decide +kernel
theorem gobin : Cond.instanceMethod objectInit ∈ fhtbl ∧ Cond.code objectInit ⟨#[0xb1]⟩ 1 none ∈ fhtbl := ⟨fhm (in_t (in_1 (List.mem_of_getElem? (i := 26) rfl))) rfl, fhm (in_t (in_1 (List.mem_of_getElem? (i := 27) rfl))) rfl⟩
theorem gldc : Cond.constant (fhrx 12) 143 32768 ∈ fhtbl := fhm (in_t (in_6 (List.mem_of_getElem? (i := 113) rfl))) rfl
theorem garr : Cond.arrayClass .int ∈ fhtbl ∧ Cond.arrayClass .char ∈ fhtbl ∧ Cond.arrayClass .boolean ∈ fhtbl ∧ Cond.arrayClass .long ∈ fhtbl := ⟨fhm (in_t (in_1 (List.mem_of_getElem? (i := 41) rfl))) rfl, fhm (in_t (in_7 (List.mem_of_getElem? (i := 205) rfl))) rfl, fhm (in_t (in_7 (List.mem_of_getElem? (i := 207) rfl))) rfl, fhm (in_t (in_7 (List.mem_of_getElem? (i := 206) rfl))) rfl⟩
