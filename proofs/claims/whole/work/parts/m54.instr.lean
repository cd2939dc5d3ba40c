/-! ONE INSTRUCTION as a function on locals, stack, memory; the guard is what the machine would throw at -/
theorem fhin_vp {i : Int32} {n : Nat} (h : fhin i n = true) : vp_in i n := by
  unfold fhin at h
  simp only [Bool.and_eq_true, Bool.not_eq_true', decide_eq_false_iff_not, decide_eq_true_eq] at h
  unfold vp_in
  rintro (q | q)
  · exact h.1 q
  · omega
abbrev fhO : Type := Option (Bool × List (Nat × Value) × List Value × fhM)
def fhlen (i : Instr) : Nat := match i with
  | .bipush _ | .iload _ | .lload _ | .aload _ | .istore _ | .lstore _ | .astore _ | .ldc _ => 2
  | .sipush _ | .iinc _ _ | .getfield _ | .putfield _ | .ldc_w _ | .ldc2_w _ => 3
  | _ => 1
def fhkok (i : Instr) (v : Int32) : Bool := match i with
  | .iconst n => decide (Int32.ofInt n = v)
  | .bipush n => decide ((Int8.ofInt n).toInt32 = v)
  | .sipush n => decide ((Int16.ofInt n).toInt32 = v)
  | .iinc _ n => decide (Int32.ofInt n = v)
  | _ => true
def fhld (lv : List (Nat × Value)) (st : List Value) (σ : fhM) (w : Option Value) : fhO := match w with
  | some v => some (true, lv, v :: st, σ)
  | none => none
def fhldi (lv : List (Nat × Value)) (st : List Value) (σ : fhM) (k : Nat) : fhO := match fhgl lv k with
  | some (.int x) => some (true, lv, .int x :: st, σ)
  | _ => none
def fhldl (lv : List (Nat × Value)) (st : List Value) (σ : fhM) (k : Nat) : fhO := match fhgl lv k with
  | some (.long x) => some (true, lv, .long x :: st, σ)
  | _ => none
def fhlda (lv : List (Nat × Value)) (st : List Value) (σ : fhM) (k : Nat) : fhO := match fhgl lv k with
  | some (.ref x) => some (true, lv, .ref x :: st, σ)
  | _ => none
def fhsti (nL : Nat) (lv : List (Nat × Value)) (st : List Value) (σ : fhM) (k : Nat) : fhO := match st with
  | .int x :: r => bif Nat.blt k nL then some (true, (k, .int x) :: fhf1 k lv, r, σ) else none
  | _ => none
def fhsta (nL : Nat) (lv : List (Nat × Value)) (st : List Value) (σ : fhM) (k : Nat) : fhO := match st with
  | .ref x :: r => bif Nat.blt k nL then some (true, (k, .ref x) :: fhf1 k lv, r, σ) else none
  | _ => none
def fhstl (nL : Nat) (lv : List (Nat × Value)) (st : List Value) (σ : fhM) (k : Nat) : fhO := match st with
  | .long x :: r => bif Nat.blt (k + 1) nL then some (true, (k, .long x) :: fhf2 k lv, r, σ) else none
  | _ => none
def fhinc (nL : Nat) (lv : List (Nat × Value)) (st : List Value) (σ : fhM) (k : Nat) (v : Int32) : fhO := match fhgl lv k with
  | some (.int x) => bif Nat.blt k nL then some (true, (k, .int (x + v)) :: fhf1 k lv, st, σ) else none
  | _ => none
def fhii (lv : List (Nat × Value)) (st : List Value) (σ : fhM) (f : Int32 → Int32 → Int32) : fhO := match st with
  | .int y :: .int x :: r => some (true, lv, .int (f x y) :: r, σ)
  | _ => none
def fhll (lv : List (Nat × Value)) (st : List Value) (σ : fhM) (f : Int64 → Int64 → Int64) : fhO := match st with
  | .long y :: .long x :: r => some (true, lv, .long (f x y) :: r, σ)
  | _ => none
def fhal (Y : fhY) (lv : List (Nat × Value)) (st : List Value) (σ : fhM) (ty : Nat) : fhO := match st with
  | .int i :: .ref t :: r => some (Nat.beq (Y.1 t).1 1 && (Nat.beq (Y.1 t).2.1 ty && (Nat.blt t Y.2.2 && fhin i (Y.1 t).2.2)), lv, .int (σ.1 t (fhix i)) :: r, σ)
  | _ => none
def fhas (Y : fhY) (lv : List (Nat × Value)) (st : List Value) (σ : fhM) (ty : Nat) (f : Int32 → Int32) : fhO := match st with
  | .int x :: .int i :: .ref t :: r => some (Nat.beq (Y.1 t).1 1 && (Nat.beq (Y.1 t).2.1 ty && (Nat.blt t Y.2.2 && fhin i (Y.1 t).2.2)), lv, r, fhI σ t (fhix i) (f x))
  | _ => none
/-- the field that an entry of a class's pool names: its class, its number; nest: through the nest -/
abbrev fhP : Type := Nat → Nat → Option (Nat × Nat)
def fhget (Y : fhY) (P : fhP) (own idx : Nat) (lv : List (Nat × Value)) (st : List Value) (σ : fhM) : fhO := match P own idx, st with
  | some (x, j), .ref t :: r => some (Nat.beq (Y.1 t).1 0 && (Nat.beq (Y.1 t).2.1 x && (Nat.blt t Y.2.2 && Nat.blt j (Y.1 t).2.2)), lv, fhfv Y σ t x j :: r, σ)
  | _, _ => none
def fhput (Y : fhY) (P : fhP) (own idx : Nat) (lv : List (Nat × Value)) (st : List Value) (σ : fhM) : fhO := match P own idx, st with
  | some (x, j), .int v :: .ref t :: r => match Y.2.1 x j with
    | (0, _) => some (Nat.beq (Y.1 t).1 0 && (Nat.beq (Y.1 t).2.1 x && (Nat.blt t Y.2.2 && Nat.blt j (Y.1 t).2.2)), lv, r, fhI σ t j v)
    | (6, _) => some (Nat.beq (Y.1 t).1 0 && (Nat.beq (Y.1 t).2.1 x && (Nat.blt t Y.2.2 && (Nat.blt j (Y.1 t).2.2 && fhbit v))), lv, r, fhI σ t j v)
    | _ => none
  | some (x, j), .long v :: .ref t :: r => match Y.2.1 x j with
    | (1, _) => some (Nat.beq (Y.1 t).1 0 && (Nat.beq (Y.1 t).2.1 x && (Nat.blt t Y.2.2 && Nat.blt j (Y.1 t).2.2)), lv, r, fhJ σ t j v)
    | _ => none
  | some (x, j), .ref v :: .ref t :: r => match Y.2.1 x j with
    | (4, _) => some (Nat.beq (Y.1 t).1 0 && (Nat.beq (Y.1 t).2.1 x && (Nat.blt t Y.2.2 && Nat.blt j (Y.1 t).2.2)), lv, r, fhR σ t j v)
    | (5, _) => some (Nat.beq (Y.1 t).1 0 && (Nat.beq (Y.1 t).2.1 x && (Nat.blt t Y.2.2 && (Nat.blt j (Y.1 t).2.2 && Nat.blt 0 v))), lv, r, fhR σ t j v)
    | _ => none
  | _, _ => none
def fh1 (Y : fhY) (P : fhP) (L : Nat → Nat → Option Int64) (own nL : Nat) (i : Instr) (v : Int32) (lv : List (Nat × Value)) (st : List Value) (σ : fhM) : fhO := match i with
  | .iconst _ => some (true, lv, .int v :: st, σ)
  | .bipush _ => some (true, lv, .int v :: st, σ)
  | .sipush _ => some (true, lv, .int v :: st, σ)
  | .lconst n => match n with
    | 0 => some (true, lv, .long 0 :: st, σ)
    | 1 => some (true, lv, .long 1 :: st, σ)
  | .ldc2_w k => match L own k with
    | some x => some (true, lv, .long x :: st, σ)
    | none => none
  | .iload k => fhldi lv st σ k
  | .iload_n k => fhldi lv st σ k.val
  | .lload k => fhldl lv st σ k
  | .lload_n k => fhldl lv st σ k.val
  | .aload k => fhlda lv st σ k
  | .aload_n k => fhlda lv st σ k.val
  | .istore k => fhsti nL lv st σ k
  | .istore_n k => fhsti nL lv st σ k.val
  | .lstore k => fhstl nL lv st σ k
  | .lstore_n k => fhstl nL lv st σ k.val
  | .astore k => fhsta nL lv st σ k
  | .astore_n k => fhsta nL lv st σ k.val
  | .iinc k _ => fhinc nL lv st σ k v
  | .iadd => fhii lv st σ (fun x y => x + y)
  | .isub => fhii lv st σ (fun x y => x - y)
  | .imul => fhii lv st σ (fun x y => x * y)
  | .iand => fhii lv st σ (fun x y => x &&& y)
  | .ior => fhii lv st σ (fun x y => x ||| y)
  | .ixor => fhii lv st σ (fun x y => x ^^^ y)
  | .ishl => fhii lv st σ (fun x y => x <<< (y &&& 31))
  | .ishr => fhii lv st σ (fun x y => x >>> (y &&& 31))
  | .iushr => fhii lv st σ fhus
  | .ladd => fhll lv st σ (fun x y => x + y)
  | .lsub => fhll lv st σ (fun x y => x - y)
  | .lmul => fhll lv st σ (fun x y => x * y)
  | .land => fhll lv st σ (fun x y => x &&& y)
  | .idiv => match st with
    | .int y :: .int x :: r => some (fhnz y, lv, .int (x / y) :: r, σ)
    | _ => none
  | .irem => match st with
    | .int y :: .int x :: r => some (fhnz y, lv, .int (fhrem x y) :: r, σ)
    | _ => none
  | .ldiv => match st with
    | .long y :: .long x :: r => some (fhnzl y, lv, .long (x / y) :: r, σ)
    | _ => none
  | .lrem => match st with
    | .long y :: .long x :: r => some (fhnzl y, lv, .long (fhreml x y) :: r, σ)
    | _ => none
  | .i2l => match st with
    | .int x :: r => some (true, lv, .long x.toInt64 :: r, σ)
    | _ => none
  | .l2i => match st with
    | .long x :: r => some (true, lv, .int x.toInt32 :: r, σ)
    | _ => none
  | .lcmp => match st with
    | .long y :: .long x :: r => some (true, lv, .int (lg_cmp x y) :: r, σ)
    | _ => none
  | .pop => match st with
    | w :: r => bif fhc2 w then none else some (true, lv, r, σ)
    | _ => none
  | .dup => match st with
    | w :: r => bif fhc2 w then none else some (true, lv, w :: w :: r, σ)
    | _ => none
  | .dup2 => match st with
    | w :: u :: r => bif fhc2 w || fhc2 u then none else some (true, lv, w :: u :: w :: u :: r, σ)
    | _ => none
  | .arraylength => match st with
    | .ref t :: r => some (Nat.beq (Y.1 t).1 1 && (Nat.blt t Y.2.2 && Nat.blt (Y.1 t).2.1 4), lv, .int (Int32.ofNat (Y.1 t).2.2) :: r, σ)
    | _ => none
  | .iaload => fhal Y lv st σ 0
  | .caload => fhal Y lv st σ 1
  | .baload => fhal Y lv st σ 2
  | .laload => match st with
    | .int i :: .ref t :: r => some (Nat.beq (Y.1 t).1 1 && (Nat.beq (Y.1 t).2.1 3 && (Nat.blt t Y.2.2 && fhin i (Y.1 t).2.2)), lv, .long (σ.2.1 t (fhix i)) :: r, σ)
    | _ => none
  | .iastore => fhas Y lv st σ 0 (fun x => x)
  | .bastore => fhas Y lv st σ 2 (fun x => x &&& 1)
  | .lastore => match st with
    | .long x :: .int i :: .ref t :: r => some (Nat.beq (Y.1 t).1 1 && (Nat.beq (Y.1 t).2.1 3 && (Nat.blt t Y.2.2 && fhin i (Y.1 t).2.2)), lv, r, fhJ σ t (fhix i) x)
    | _ => none
  | .getfield k => fhget Y P own k lv st σ
  | .putfield k => fhput Y P own k lv st σ
  | _ => none
