/-! CONSTRUCTORS: worlds that grow, and a function that runs the code -/
abbrev gE : Type := Nat × Nat × Nat × List Value × List (Nat × Int32)
def gaf : List (Nat × Int32) → Nat → Int32
  | [] => fun _ => 0
  | q :: l => upd (gaf l) q.1 q.2
def gent (b : Nat) (cA : Nat → ClassId) (e : gE) : va_E := match e with
  | (0, x, _, fs, _) => .inr (x, fs.map (fhcv b))
  | (_, x, n, _, ws) => .inl (cA x, n, bif Nat.beq x 3 then .inr (.inl (fun _ => 0)) else .inl (gaf ws))
def gws (b : Nat) (cA : Nat → ClassId) (w : List gE) : va_W := w.mapIdx (fun t e => (b + t, gent b cA e))
def gAa (b : Nat) : Nat → Prop := fun q => b ≤ q
section
variable {b : Nat} {cA : Nat → ClassId} {w : List gE} {t : Nat} {e : gE} {D : va_G} {H : Heap}
theorem gws_len : (gws b cA w).length = w.length := by
  unfold gws
  rw [List.length_mapIdx]
theorem gws_at (h : w[t]? = some e) : (gws b cA w)[t]? = some (b + t, gent b cA e) := by
  unfold gws
  rw [List.getElem?_mapIdx, h]
  rfl
theorem gws_of {q : Nat × va_E} (h : (gws b cA w)[t]? = some q) : ∃ e, w[t]? = some e ∧ q = (b + t, gent b cA e) := by
  unfold gws at h
  rw [List.getElem?_mapIdx] at h
  cases he : w[t]? with
  | none => rw [he] at h; cases h
  | some e => rw [he] at h; cases h; exact ⟨e, rfl, rfl⟩
theorem gws_set : (gws b cA w).set t (b + t, gent b cA e) = gws b cA (w.set t e) := by
  apply List.ext_getElem?
  intro i
  by_cases hi : i = t
  · subst hi
    by_cases hl : i < w.length
    · rw [List.getElem?_set_self (by rw [gws_len]; exact hl), gws_at (e := e) (by rw [List.getElem?_set_self hl])]
    · rw [List.getElem?_eq_none (by rw [List.length_set, gws_len]; omega), List.getElem?_eq_none (by rw [gws_len, List.length_set]; omega)]
  · rw [List.getElem?_set_ne (fun q => hi q.symm)]
    unfold gws
    rw [List.getElem?_mapIdx, List.getElem?_mapIdx, List.getElem?_set_ne (fun q => hi q.symm)]
theorem gws_push : gws b cA w ++ [(b + w.length, gent b cA e)] = gws b cA (w ++ [e]) := by
  unfold gws
  rw [List.mapIdx_concat]
theorem gws_D : va_D (gAa b) (gws b cA w) := by
  refine ⟨fun i j p q hi hj e => ?_, fun k q hk => ?_⟩
  · obtain ⟨_, -, rfl⟩ := gws_of hi
    obtain ⟨_, -, rfl⟩ := gws_of hj
    have e : b + i = b + j := e
    omega
  · obtain ⟨_, -, rfl⟩ := gws_of hk
    exact Nat.le_add_right _ _
theorem gws_lt (hP : va_P D vwCl (gws b cA w) H) (h0 : 0 < w.length) : b + w.length ≤ H.size := by
  have hl : w.length - 1 < w.length := by omega
  have h := (hP _ _ (gws_at (b := b) (cA := cA) (List.getElem?_eq_getElem hl))).lt
  have h : b + (w.length - 1) < H.size := h
  omega
theorem gws_new {q : Nat} {e' : va_E} (hP : va_P D vwCl (gws b cA w ++ [(q, e')]) H) (hD : va_D (gAa b) (gws b cA w ++ [(q, e')])) (hs : H.size ≤ b + w.length + 1) : q = b + w.length := by
  have hlen : (gws b cA w).length = w.length := gws_len
  have hq : (gws b cA w ++ [(q, e')])[w.length]? = some (q, e') := by rw [← hlen, List.getElem?_concat_length]
  have h1 : b ≤ q := hD.2 _ _ hq
  have h2 : q < H.size := (hP _ _ hq).lt
  by_cases c : q = b + w.length
  · exact c
  · have hl : q - b < w.length := by omega
    have h3 := gws_at (b := b) (cA := cA) (List.getElem?_eq_getElem hl)
    have h4 : (gws b cA w ++ [(q, e')])[q - b]? = some (b + (q - b), gent b cA w[q - b]) := by
      rw [List.getElem?_append_left (by omega)]
      exact h3
    have := hD.1 _ _ _ _ h4 hq (show b + (q - b) = q by omega)
    omega
end
theorem gW_sz {p : Program} {l : Launch} {e : Env} {R : Room} {s : State} {m : MethodId} {args : Array Value} {below : List Frame} {meth : Method} {c : Code} {H : Heap} {locs : List Loc} {cells slots : Nat} {Q : State → Prop} {g : JFrame} (k : H.size ≤ s.heap.size + cells → W p l e R s m args below meth c H locs cells slots Q g) : W p l e R s m args below meth c H locs cells slots Q g := fun T hT X => k (by rw [← hT]; exact X.heapSize) T hT X
/-! the function -/
def gfd (t : List (Nat × Nat × Nat)) (x i : Nat) : Option Nat := match t with
  | [] => none
  | q :: t => bif Nat.beq q.1 x && Nat.beq q.2.1 i then some q.2.2 else gfd t x i
theorem gfd_m {t : List (Nat × Nat × Nat)} {x i c : Nat} (h : gfd t x i = some c) : (x, i, c) ∈ t := by
  induction t with
  | nil => cases h
  | cons q t ih =>
    unfold gfd at h
    cases hb : (Nat.beq q.1 x && Nat.beq q.2.1 i) with
    | true =>
      rw [hb] at h
      cases h
      obtain ⟨h1, h2⟩ := fhand hb
      have h1 := Nat.eq_of_beq_eq_true h1
      have h2 := Nat.eq_of_beq_eq_true h2
      obtain ⟨q1, q2, q3⟩ := q
      subst h1 h2
      exact List.mem_cons_self
    | false =>
      rw [hb] at h
      exact List.mem_cons_of_mem _ (ih h)
def gobs (x i : Nat) : Bool := gobt.any (fun q => Nat.beq q.1 x && Nat.beq q.2 i)
theorem gobs_m {x i : Nat} (h : gobs x i = true) : (x, i) ∈ gobt := by
  obtain ⟨q, hq, h⟩ := List.any_eq_true.mp h
  obtain ⟨h1, h2⟩ := fhand h
  have h1 := Nat.eq_of_beq_eq_true h1
  have h2 := Nat.eq_of_beq_eq_true h2
  obtain ⟨q1, q2⟩ := q
  subst h1 h2
  exact hq
def gat (t : ArrayType) : Option Nat := match t with
  | .int => some 0
  | .char => some 1
  | .boolean => some 2
  | .long => some 3
  | _ => none
def gdf (x : Nat) : List Value := (List.range (fhcN x)).map (fun j => defaultValue (fhcy x j))
def gch (v : Int32) : Bool := decide (vp_nar .char v = v)
def gvk (t : FieldType) (v : Value) : Bool := match t, v with
  | .int, .int _ => true
  | .long, .long _ => true
  | .object _, .ref _ => true
  | .array _, .ref _ => true
  | _, _ => false
theorem gvk_ok {t : FieldType} {v : Value} {b : Nat} (h : gvk t v = true) : narrow t (fhcv b v) = fhcv b v ∧ fits t (fhcv b v) = true := by
  unfold gvk at h
  split at h
  · exact ⟨rfl, rfl⟩
  · exact ⟨rfl, rfl⟩
  · exact ⟨rfl, rfl⟩
  · exact ⟨rfl, rfl⟩
  · cases h
def gmax (a c : Int32) : Int32 := if a < c then c else a
def gs1 (x : Nat) (i : Instr) (lv : List (Nat × Value)) (st : List Value) (w : List gE) : Option (Nat × List Value × List gE × Nat × Nat) := match i with
  | .aload_n k => match fhgl lv k with
    | some (.ref a) => some (1, .ref a :: st, w, 0, 0)
    | _ => none
  | .iload_n k => match fhgl lv k with
    | some (.int a) => some (1, .int a :: st, w, 0, 0)
    | _ => none
  | .iconst n => some (1, .int (Int32.ofInt n) :: st, w, 0, 0)
  | .bipush n => some (2, .int (Int8.ofInt n).toInt32 :: st, w, 0, 0)
  | .sipush n => some (3, .int (Int16.ofInt n).toInt32 :: st, w, 0, 0)
  | .lconst n => some (1, .long (Int64.ofNat (n : Nat)) :: st, w, 0, 0)
  | .ldc k => bif Nat.beq x 12 && Nat.beq k 143 then some (2, .int 32768 :: st, w, 0, 0) else none
  | .dup => match st with
    | .ref a :: r => some (1, .ref a :: .ref a :: r, w, 0, 0)
    | _ => none
  | .new k => match gfd gnwt x k with
    | some c => some (3, .ref w.length :: st, w ++ [(0, c, fhcN c, gdf c, [])], 1, fhcN c)
    | none => none
  | .newarray t => match gat t, st with
    | some y, .int n :: r => bif !decide (n < 0) && Nat.ble n.toNatClampNeg 60000 then some (2, .ref w.length :: r, w ++ [(1, y, n.toNatClampNeg, [], [])], 1, n.toNatClampNeg) else none
    | _, _ => none
  | .castore => match st with
    | .int v :: .int i :: .ref a :: r => match w[a]? with
      | some (1, 1, n, fs, ws) => bif fhin i n && gch v then some (1, r, w.set a (1, 1, n, fs, (fhix i, v) :: ws), 0, 0) else none
      | _ => none
    | _ => none
  | .putfield k => match gfd (gpt x) x k, st with
    | some j, v :: .ref a :: r => match w[a]? with
      | some (0, c, n, fs, ws) => bif Nat.beq c x && (Nat.blt j fs.length && gvk (fhcy x j) v) then some (3, r, w.set a (0, c, n, fs.set j v, ws), 0, 0) else none
      | _ => none
    | _, _ => none
  | .getfield k => match fhPo x k, st with
    | some (c, j), .ref a :: r => match w[a]? with
      | some (0, c', _, fs, _) => match fs[j]? with
        | some v => bif Nat.beq c' c then some (3, v :: r, w, 0, 0) else none
        | none => none
      | _ => none
    | _, _ => none
  | .invokespecial k => match gobs x k, st with
    | true, .ref _ :: r => bif Nat.ble (fhcat r) 8 then some (3, r, w, 0, 0) else none
    | _, _ => none
  | .invokestatic k => bif Nat.beq x 2 && Nat.beq k 7 then (match st with
    | .int v :: .int u :: r => bif Nat.ble (fhcat r) 8 then some (3, .int (gmax u v) :: r, w, 0, 0) else none
    | _ => none) else none
  | _ => none
def gpop : Nat → List Value → List Value → Option (List Value × Nat × List Value)
  | 0, av, .ref a :: r => some (av, a, r)
  | n + 1, av, v :: r => gpop n (v :: av) r
  | _, _, _ => none
def gcl (x i : Nat) : Option (Bool × Nat) := match gfd glkt x i with
  | some c => some (false, c)
  | none => match gfd gnst x i with
    | some c => some (true, c)
    | none => none
def gend (st : List Value) : Bool := match st with
  | [] => true
  | _ => false
/-! the same, worked out at once -/
def gfn {α : Type} (n : Nat) (k : Nat → α) : α := match n with
  | 0 => k 0
  | m + 1 => k (m + 1)
theorem gfn_e {α : Type} (n : Nat) (k : Nat → α) : gfn n k = k n := by cases n <;> rfl
def gfv {α : Type} (v : Value) (k : Value → α) : α := match v with
  | .ref a => gfn a (fun a => k (.ref a))
  | v => k v
theorem gfv_e {α : Type} (v : Value) (k : Value → α) : gfv v k = k v := by
  cases v with
  | ref a => exact gfn_e a (fun a => k (.ref a))
  | _ => rfl
def gfl {α β : Type} (f : β → (β → α) → α) : List β → (List β → α) → α
  | [], k => k []
  | a :: l, k => f a (fun a => gfl f l (fun l => k (a :: l)))
theorem gfl_e {α β : Type} {f : β → (β → α) → α} (hf : ∀ a k, f a k = k a) : ∀ (l : List β) (k : List β → α), gfl f l k = k l
  | [], _ => rfl
  | a :: l, k => by
    show f a (fun a => gfl f l (fun l => k (a :: l))) = _
    rw [hf, gfl_e hf l]
def gfq {α : Type} (q : Nat × Int32) (k : Nat × Int32 → α) : α := match q with
  | (a, v) => gfn a (fun a => k (a, v))
theorem gfq_e {α : Type} (q : Nat × Int32) (k : Nat × Int32 → α) : gfq q k = k q := gfn_e q.1 (fun a => k (a, q.2))
def gfe {α : Type} (e : gE) (k : gE → α) : α := match e with
  | (a, x, n, fs, ws) => gfn x (fun x => gfn n (fun n => gfl gfv fs (fun fs => gfl gfq ws (fun ws => k (a, x, n, fs, ws)))))
theorem gfe_e {α : Type} (e : gE) (k : gE → α) : gfe e k = k e := by
  obtain ⟨a, x, n, fs, ws⟩ := e
  show gfn x (fun x => gfn n (fun n => gfl gfv fs (fun fs => gfl gfq ws (fun ws => k (a, x, n, fs, ws))))) = _
  rw [gfn_e, gfn_e, gfl_e gfv_e, gfl_e gfq_e]
def gmu (i : Instr) : Bool := match i with
  | .putfield _ => true
  | .castore => true
  | .new _ => true
  | .newarray _ => true
  | _ => false
def gfz {α : Type} (i : Instr) (st : List Value) (w : List gE) (cl sl : Nat) (k : List Value → List gE → Nat → Nat → α) : α := gfl gfv st (fun st => gfn cl (fun cl => gfn sl (fun sl => bif gmu i then gfl gfe w (fun w => k st w cl sl) else k st w cl sl)))
theorem gfz_e {α : Type} (i : Instr) (st : List Value) (w : List gE) (cl sl : Nat) (k : List Value → List gE → Nat → Nat → α) : gfz i st w cl sl k = k st w cl sl := by
  unfold gfz
  rw [gfl_e gfv_e, gfn_e, gfn_e, gfl_e gfe_e]
  cases gmu i <;> rfl
def gev : Nat → Nat → Nat → List (Nat × Value) → List Value → List gE → Nat → Nat → Option (List gE × Nat × Nat)
  | 0, _, _, _, _, _, _, _ => none
  | n + 1, x, pc, lv, st, w, cl, sl => match decode (gcd x) pc with
    | .error _ => none
    | .ok (i, len) => match gs1 x i lv st w with
      | some (k, st', w', dc, ds) => bif Nat.beq len k then gfn (pc + k) (fun pc => gfz i st' w' (cl + dc) (sl + ds) (fun st w cl sl => gev n x pc lv st w cl sl)) else none
      | none => match i with
        | .return_ => bif Nat.beq len 1 && gend st then some (w, cl, sl) else none
        | .invokespecial j => match gcl x j with
          | none => none
          | some (nst, c) => match gpop (gnp c) [] st with
            | none => none
            | some (av, a, r) => match gev n c 0 (lv_args 0 (.ref a :: av)) [] w 0 0 with
              | none => none
              | some (w', dc, ds) => bif Nat.beq len 3 && (Nat.ble (fhcat r) 8 && Nat.ble (fhcat (.ref a :: av)) (gnl c)) then gfn (pc + 3) (fun pc => gfz i r w' (cl + dc) (sl + ds) (fun st w cl sl => gev n x pc lv st w cl sl)) else none
        | _ => none
/-! what is counted -/
theorem gbif {α : Type} {c : Bool} {o : Option α} {v : α} (h : (bif c then o else none) = some v) : c = true ∧ o = some v := by
  cases c
  · cases h
  · exact ⟨rfl, h⟩
theorem gs1_len {x : Nat} {i : Instr} {lv : List (Nat × Value)} {st st' : List Value} {w w' : List gE} {k dc ds : Nat} (h : gs1 x i lv st w = some (k, st', w', dc, ds)) : w'.length = w.length + dc := by
  unfold gs1 at h
  split at h
  · split at h <;> cases h; rfl
  · split at h <;> cases h; rfl
  · cases h; rfl
  · cases h; rfl
  · cases h; rfl
  · cases h; rfl
  · obtain ⟨-, h⟩ := gbif h
    cases h; rfl
  · split at h <;> cases h; rfl
  · split at h <;> cases h
    rw [List.length_append]; rfl
  · split at h
    · obtain ⟨-, h⟩ := gbif h
      cases h
      rw [List.length_append]; rfl
    · cases h
  · split at h
    · split at h
      · obtain ⟨-, h⟩ := gbif h
        cases h
        rw [List.length_set]; rfl
      · cases h
    · cases h
  · split at h
    · split at h
      · obtain ⟨-, h⟩ := gbif h
        cases h
        rw [List.length_set]; rfl
      · cases h
    · cases h
  · split at h
    · split at h
      · split at h
        · obtain ⟨-, h⟩ := gbif h
          cases h; rfl
        · cases h
      · cases h
    · cases h
  · split at h
    · obtain ⟨-, h⟩ := gbif h
      cases h; rfl
    · cases h
  · obtain ⟨-, h⟩ := gbif h
    split at h
    · obtain ⟨-, h⟩ := gbif h
      cases h; rfl
    · cases h
  · cases h
theorem gev_len : ∀ (n : Nat) {x pc : Nat} {lv : List (Nat × Value)} {st : List Value} {w w' : List gE} {cl sl cl' sl' : Nat}, gev n x pc lv st w cl sl = some (w', cl', sl') → cl ≤ cl' ∧ sl ≤ sl' ∧ w'.length + cl = w.length + cl'
  | 0, _, _, _, _, _, _, _, _, _, _, h => by cases h
  | n + 1, x, pc, lv, st, w, w', cl, sl, cl', sl', h => by
    unfold gev at h
    split at h
    · cases h
    · rename_i i len _
      split at h
      · rename_i k st2 w2 dc ds h1
        obtain ⟨-, h⟩ := gbif h
        rw [gfn_e, gfz_e] at h
        obtain ⟨a, c, d⟩ := gev_len n h
        have := gs1_len h1
        exact ⟨by omega, by omega, by omega⟩
      · split at h
        · obtain ⟨-, h⟩ := gbif h
          cases h
          exact ⟨Nat.le_refl _, Nat.le_refl _, rfl⟩
        · split at h
          · cases h
          · rename_i nst c _
            split at h
            · cases h
            · rename_i av a r _
              split at h
              · cases h
              · rename_i w2 dc ds h2
                obtain ⟨-, h⟩ := gbif h
                rw [gfn_e, gfz_e] at h
                obtain ⟨a1, c1, d1⟩ := gev_len n h2
                obtain ⟨a2, c2, d2⟩ := gev_len n h
                exact ⟨by omega, by omega, by omega⟩
        · cases h
