/-! BRANCHES, CALLS, ENDS -/
def fhoff (i : Instr) : Int := match i with
  | .if_icmp _ o => o
  | .ifCond _ o => o
  | .goto o => o
  | .ifnull o => o
  | .ifnonnull o => o
  | _ => 0
def fhbk (cc : ByteArray) (pc : Nat) (i : Instr) (tgt : Nat) : Bool := decide (decode cc pc = .ok (i, 3)) && decide ((pc : Int) + fhoff i = (tgt : Int))
theorem fhbk1 {cc : ByteArray} {pc : Nat} {i : Instr} {tgt : Nat} (h : fhbk cc pc i tgt = true) : decode cc pc = .ok (i, 3) ∧ (pc : Int) + fhoff i = (tgt : Int) := by
  obtain ⟨h1, h2⟩ := fhand h
  exact ⟨of_decide_eq_true h1, of_decide_eq_true h2⟩
theorem fhW.goto {Y : fhY} {own : Nat} {cc : ByteArray} {nL : Nat} {ret : Option FieldType} {Γ : fhX} (hΓ : fhOk Y own cc nL ret Γ) {pc tgt : Nat} {off : Int} {lv : List (Nat × Value)} {st : List Value} {σ : fhM} (hd : fhbk cc pc (.goto off) tgt = true) (kk : fhW Y Γ tgt lv st σ) : fhW Y Γ pc lv st σ := by
  obtain ⟨⟨l, D, b, cA, X⟩, d, p, e, s, m, args, below, meth, c, r, σe⟩ := Γ
  obtain ⟨hx, hb, -⟩ := hΓ
  intro ls H locs hl hP hS
  exact lv_goto hx hb (fhbk1 hd).1 (fhbk1 hd).2 (kk ls H locs hl hP hS)
theorem fhW.i_lt {Y : fhY} {own : Nat} {cc : ByteArray} {nL : Nat} {ret : Option FieldType} {Γ : fhX} (hΓ : fhOk Y own cc nL ret Γ) {pc tgt : Nat} {off : Int} {lv : List (Nat × Value)} {st : List Value} {σ : fhM} {x y : Int32} (hd : fhbk cc pc (.if_icmp .lt off) tgt = true) (kt : x < y → fhW Y Γ tgt lv st σ) (kf : ¬ x < y → fhW Y Γ (pc + 3) lv st σ) : fhW Y Γ pc lv (.int y :: .int x :: st) σ := by
  obtain ⟨⟨l, D, b, cA, X⟩, d, p, e, s, m, args, below, meth, c, r, σe⟩ := Γ
  obtain ⟨hx, hb, -⟩ := hΓ
  intro ls H locs hl hP hS
  exact lv_icmp_lt hx hb (fhbk1 hd).1 (fhbk1 hd).2 (fun q => kt q ls H locs hl hP hS) (fun q => kf q ls H locs hl hP hS)
theorem fhW.z_lt {Y : fhY} {own : Nat} {cc : ByteArray} {nL : Nat} {ret : Option FieldType} {Γ : fhX} (hΓ : fhOk Y own cc nL ret Γ) {pc tgt : Nat} {off : Int} {lv : List (Nat × Value)} {st : List Value} {σ : fhM} {x : Int32} (hd : fhbk cc pc (.ifCond .lt off) tgt = true) (kt : x < 0 → fhW Y Γ tgt lv st σ) (kf : ¬ x < 0 → fhW Y Γ (pc + 3) lv st σ) : fhW Y Γ pc lv (.int x :: st) σ := by
  obtain ⟨⟨l, D, b, cA, X⟩, d, p, e, s, m, args, below, meth, c, r, σe⟩ := Γ
  obtain ⟨hx, hb, -⟩ := hΓ
  intro ls H locs hl hP hS
  exact lv_if_lt hx hb (fhbk1 hd).1 (fhbk1 hd).2 (fun q => kt q ls H locs hl hP hS) (fun q => kf q ls H locs hl hP hS)
theorem fhW.i_ge {Y : fhY} {own : Nat} {cc : ByteArray} {nL : Nat} {ret : Option FieldType} {Γ : fhX} (hΓ : fhOk Y own cc nL ret Γ) {pc tgt : Nat} {off : Int} {lv : List (Nat × Value)} {st : List Value} {σ : fhM} {x y : Int32} (hd : fhbk cc pc (.if_icmp .ge off) tgt = true) (kt : y ≤ x → fhW Y Γ tgt lv st σ) (kf : ¬ y ≤ x → fhW Y Γ (pc + 3) lv st σ) : fhW Y Γ pc lv (.int y :: .int x :: st) σ := by
  obtain ⟨⟨l, D, b, cA, X⟩, d, p, e, s, m, args, below, meth, c, r, σe⟩ := Γ
  obtain ⟨hx, hb, -⟩ := hΓ
  intro ls H locs hl hP hS
  exact lv_icmp_ge hx hb (fhbk1 hd).1 (fhbk1 hd).2 (fun q => kt q ls H locs hl hP hS) (fun q => kf q ls H locs hl hP hS)
theorem fhW.z_ge {Y : fhY} {own : Nat} {cc : ByteArray} {nL : Nat} {ret : Option FieldType} {Γ : fhX} (hΓ : fhOk Y own cc nL ret Γ) {pc tgt : Nat} {off : Int} {lv : List (Nat × Value)} {st : List Value} {σ : fhM} {x : Int32} (hd : fhbk cc pc (.ifCond .ge off) tgt = true) (kt : 0 ≤ x → fhW Y Γ tgt lv st σ) (kf : ¬ 0 ≤ x → fhW Y Γ (pc + 3) lv st σ) : fhW Y Γ pc lv (.int x :: st) σ := by
  obtain ⟨⟨l, D, b, cA, X⟩, d, p, e, s, m, args, below, meth, c, r, σe⟩ := Γ
  obtain ⟨hx, hb, -⟩ := hΓ
  intro ls H locs hl hP hS
  exact lv_if_ge hx hb (fhbk1 hd).1 (fhbk1 hd).2 (fun q => kt q ls H locs hl hP hS) (fun q => kf q ls H locs hl hP hS)
theorem fhW.i_gt {Y : fhY} {own : Nat} {cc : ByteArray} {nL : Nat} {ret : Option FieldType} {Γ : fhX} (hΓ : fhOk Y own cc nL ret Γ) {pc tgt : Nat} {off : Int} {lv : List (Nat × Value)} {st : List Value} {σ : fhM} {x y : Int32} (hd : fhbk cc pc (.if_icmp .gt off) tgt = true) (kt : y < x → fhW Y Γ tgt lv st σ) (kf : ¬ y < x → fhW Y Γ (pc + 3) lv st σ) : fhW Y Γ pc lv (.int y :: .int x :: st) σ := by
  obtain ⟨⟨l, D, b, cA, X⟩, d, p, e, s, m, args, below, meth, c, r, σe⟩ := Γ
  obtain ⟨hx, hb, -⟩ := hΓ
  intro ls H locs hl hP hS
  exact lv_icmp_gt hx hb (fhbk1 hd).1 (fhbk1 hd).2 (fun q => kt q ls H locs hl hP hS) (fun q => kf q ls H locs hl hP hS)
theorem fhW.z_gt {Y : fhY} {own : Nat} {cc : ByteArray} {nL : Nat} {ret : Option FieldType} {Γ : fhX} (hΓ : fhOk Y own cc nL ret Γ) {pc tgt : Nat} {off : Int} {lv : List (Nat × Value)} {st : List Value} {σ : fhM} {x : Int32} (hd : fhbk cc pc (.ifCond .gt off) tgt = true) (kt : 0 < x → fhW Y Γ tgt lv st σ) (kf : ¬ 0 < x → fhW Y Γ (pc + 3) lv st σ) : fhW Y Γ pc lv (.int x :: st) σ := by
  obtain ⟨⟨l, D, b, cA, X⟩, d, p, e, s, m, args, below, meth, c, r, σe⟩ := Γ
  obtain ⟨hx, hb, -⟩ := hΓ
  intro ls H locs hl hP hS
  exact lv_if_gt hx hb (fhbk1 hd).1 (fhbk1 hd).2 (fun q => kt q ls H locs hl hP hS) (fun q => kf q ls H locs hl hP hS)
theorem fhW.i_le {Y : fhY} {own : Nat} {cc : ByteArray} {nL : Nat} {ret : Option FieldType} {Γ : fhX} (hΓ : fhOk Y own cc nL ret Γ) {pc tgt : Nat} {off : Int} {lv : List (Nat × Value)} {st : List Value} {σ : fhM} {x y : Int32} (hd : fhbk cc pc (.if_icmp .le off) tgt = true) (kt : x ≤ y → fhW Y Γ tgt lv st σ) (kf : ¬ x ≤ y → fhW Y Γ (pc + 3) lv st σ) : fhW Y Γ pc lv (.int y :: .int x :: st) σ := by
  obtain ⟨⟨l, D, b, cA, X⟩, d, p, e, s, m, args, below, meth, c, r, σe⟩ := Γ
  obtain ⟨hx, hb, -⟩ := hΓ
  intro ls H locs hl hP hS
  exact lv_icmp_le hx hb (fhbk1 hd).1 (fhbk1 hd).2 (fun q => kt q ls H locs hl hP hS) (fun q => kf q ls H locs hl hP hS)
theorem fhW.z_le {Y : fhY} {own : Nat} {cc : ByteArray} {nL : Nat} {ret : Option FieldType} {Γ : fhX} (hΓ : fhOk Y own cc nL ret Γ) {pc tgt : Nat} {off : Int} {lv : List (Nat × Value)} {st : List Value} {σ : fhM} {x : Int32} (hd : fhbk cc pc (.ifCond .le off) tgt = true) (kt : x ≤ 0 → fhW Y Γ tgt lv st σ) (kf : ¬ x ≤ 0 → fhW Y Γ (pc + 3) lv st σ) : fhW Y Γ pc lv (.int x :: st) σ := by
  obtain ⟨⟨l, D, b, cA, X⟩, d, p, e, s, m, args, below, meth, c, r, σe⟩ := Γ
  obtain ⟨hx, hb, -⟩ := hΓ
  intro ls H locs hl hP hS
  exact lv_if_le hx hb (fhbk1 hd).1 (fhbk1 hd).2 (fun q => kt q ls H locs hl hP hS) (fun q => kf q ls H locs hl hP hS)
theorem fhW.i_eq {Y : fhY} {own : Nat} {cc : ByteArray} {nL : Nat} {ret : Option FieldType} {Γ : fhX} (hΓ : fhOk Y own cc nL ret Γ) {pc tgt : Nat} {off : Int} {lv : List (Nat × Value)} {st : List Value} {σ : fhM} {x y : Int32} (hd : fhbk cc pc (.if_icmp .eq off) tgt = true) (kt : x = y → fhW Y Γ tgt lv st σ) (kf : ¬ x = y → fhW Y Γ (pc + 3) lv st σ) : fhW Y Γ pc lv (.int y :: .int x :: st) σ := by
  obtain ⟨⟨l, D, b, cA, X⟩, d, p, e, s, m, args, below, meth, c, r, σe⟩ := Γ
  obtain ⟨hx, hb, -⟩ := hΓ
  intro ls H locs hl hP hS
  exact lv_icmp_eq hx hb (fhbk1 hd).1 (fhbk1 hd).2 (fun q => kt q ls H locs hl hP hS) (fun q => kf q ls H locs hl hP hS)
theorem fhW.z_eq {Y : fhY} {own : Nat} {cc : ByteArray} {nL : Nat} {ret : Option FieldType} {Γ : fhX} (hΓ : fhOk Y own cc nL ret Γ) {pc tgt : Nat} {off : Int} {lv : List (Nat × Value)} {st : List Value} {σ : fhM} {x : Int32} (hd : fhbk cc pc (.ifCond .eq off) tgt = true) (kt : x = 0 → fhW Y Γ tgt lv st σ) (kf : ¬ x = 0 → fhW Y Γ (pc + 3) lv st σ) : fhW Y Γ pc lv (.int x :: st) σ := by
  obtain ⟨⟨l, D, b, cA, X⟩, d, p, e, s, m, args, below, meth, c, r, σe⟩ := Γ
  obtain ⟨hx, hb, -⟩ := hΓ
  intro ls H locs hl hP hS
  exact lv_if_eq hx hb (fhbk1 hd).1 (fhbk1 hd).2 (fun q => kt q ls H locs hl hP hS) (fun q => kf q ls H locs hl hP hS)
theorem fhW.i_ne {Y : fhY} {own : Nat} {cc : ByteArray} {nL : Nat} {ret : Option FieldType} {Γ : fhX} (hΓ : fhOk Y own cc nL ret Γ) {pc tgt : Nat} {off : Int} {lv : List (Nat × Value)} {st : List Value} {σ : fhM} {x y : Int32} (hd : fhbk cc pc (.if_icmp .ne off) tgt = true) (kt : ¬ x = y → fhW Y Γ tgt lv st σ) (kf : x = y → fhW Y Γ (pc + 3) lv st σ) : fhW Y Γ pc lv (.int y :: .int x :: st) σ := by
  obtain ⟨⟨l, D, b, cA, X⟩, d, p, e, s, m, args, below, meth, c, r, σe⟩ := Γ
  obtain ⟨hx, hb, -⟩ := hΓ
  intro ls H locs hl hP hS
  exact lv_icmp_ne hx hb (fhbk1 hd).1 (fhbk1 hd).2 (fun q => kt q ls H locs hl hP hS) (fun q => kf q ls H locs hl hP hS)
theorem fhW.z_ne {Y : fhY} {own : Nat} {cc : ByteArray} {nL : Nat} {ret : Option FieldType} {Γ : fhX} (hΓ : fhOk Y own cc nL ret Γ) {pc tgt : Nat} {off : Int} {lv : List (Nat × Value)} {st : List Value} {σ : fhM} {x : Int32} (hd : fhbk cc pc (.ifCond .ne off) tgt = true) (kt : ¬ x = 0 → fhW Y Γ tgt lv st σ) (kf : x = 0 → fhW Y Γ (pc + 3) lv st σ) : fhW Y Γ pc lv (.int x :: st) σ := by
  obtain ⟨⟨l, D, b, cA, X⟩, d, p, e, s, m, args, below, meth, c, r, σe⟩ := Γ
  obtain ⟨hx, hb, -⟩ := hΓ
  intro ls H locs hl hP hS
  exact lv_if_ne hx hb (fhbk1 hd).1 (fhbk1 hd).2 (fun q => kt q ls H locs hl hP hS) (fun q => kf q ls H locs hl hP hS)
theorem fhW.b_eq {Y : fhY} {own : Nat} {cc : ByteArray} {nL : Nat} {ret : Option FieldType} {Γ : fhX} (hΓ : fhOk Y own cc nL ret Γ) {pc tgt : Nat} {off : Int} {lv : List (Nat × Value)} {st : List Value} {σ : fhM} {x : Bool} (hd : fhbk cc pc (.ifCond .eq off) tgt = true) (kt : ¬ x = true → fhW Y Γ tgt lv st σ) (kf : x = true → fhW Y Γ (pc + 3) lv st σ) : fhW Y Γ pc lv (.int (fhb x) :: st) σ :=
  fhW.z_eq hΓ hd (fun q => kt (by rw [fhb_0.mp q]; decide)) (fun q => kf (by cases x with
    | true => rfl
    | false => exact absurd rfl q))
theorem fhW.b_ne {Y : fhY} {own : Nat} {cc : ByteArray} {nL : Nat} {ret : Option FieldType} {Γ : fhX} (hΓ : fhOk Y own cc nL ret Γ) {pc tgt : Nat} {off : Int} {lv : List (Nat × Value)} {st : List Value} {σ : fhM} {x : Bool} (hd : fhbk cc pc (.ifCond .ne off) tgt = true) (kt : x = true → fhW Y Γ tgt lv st σ) (kf : ¬ x = true → fhW Y Γ (pc + 3) lv st σ) : fhW Y Γ pc lv (.int (fhb x) :: st) σ :=
  fhW.z_ne hΓ hd (fun q => kt (by cases x with
    | true => rfl
    | false => exact absurd rfl q)) (fun q => kf (by rw [fhb_0.mp q]; decide))
theorem fhW.nullN {Y : fhY} {own : Nat} {cc : ByteArray} {nL : Nat} {ret : Option FieldType} {Γ : fhX} (hΓ : fhOk Y own cc nL ret Γ) {pc tgt : Nat} {off : Int} {lv : List (Nat × Value)} {st : List Value} {σ : fhM} {x : Nat} (hd : fhbk cc pc (.ifnull off) tgt = true) (kt : x = 0 → fhW Y Γ tgt lv st σ) (kf : ¬ x = 0 → fhW Y Γ (pc + 3) lv st σ) : fhW Y Γ pc lv (fhnv x :: st) σ := by
  obtain ⟨⟨l, D, b, cA, X⟩, d, p, e, s, m, args, below, meth, c, r, σe⟩ := Γ
  obtain ⟨hx, hb, -⟩ := hΓ
  intro ls H locs hl hP hS
  cases x with
  | zero => exact lv_ifnullN hx hb (fhbk1 hd).1 (fhbk1 hd).2 (kt rfl ls H locs hl hP hS)
  | succ n => exact lv_ifnull hx hb (fhbk1 hd).1 (kf (Nat.succ_ne_zero n) ls H locs hl hP hS)
/-- fewer locals, by their places -/
def fhnth : List (Nat × Value) → Nat → Option (Nat × Value)
  | [], _ => none
  | q :: l, n => match n with
    | 0 => some q
    | n + 1 => fhnth l n
def fhpick (lv : List (Nat × Value)) : List Nat → List (Nat × Value)
  | [] => []
  | k :: ks => match fhnth lv k with
    | some q => q :: fhpick lv ks
    | none => fhpick lv ks
theorem fhnth_mem {lv : List (Nat × Value)} {k : Nat} {q : Nat × Value} (h : fhnth lv k = some q) : q ∈ lv := by
  induction lv generalizing k with
  | nil => cases h
  | cons a l ih =>
    cases k with
    | zero => cases h; exact List.mem_cons_self
    | succ k => exact List.mem_cons_of_mem _ (ih h)
theorem fhpick_mem {lv : List (Nat × Value)} {ks : List Nat} {q : Nat × Value} (h : q ∈ fhpick lv ks) : q ∈ lv := by
  induction ks with
  | nil => cases h
  | cons k ks ih =>
    unfold fhpick at h
    split at h
    · rename_i a ha
      rcases List.mem_cons.mp h with e | h
      · rw [e]; exact fhnth_mem ha
      · exact ih h
    · exact ih h
theorem fhW.sub {Y : fhY} {Γ : fhX} {pc : Nat} {lv lv' : List (Nat × Value)} {st : List Value} {σ : fhM} (ks : List Nat) (h : fhpick lv ks = lv') (kk : fhW Y Γ pc lv' st σ) : fhW Y Γ pc lv st σ := by
  obtain ⟨⟨l, D, b, cA, X⟩, d, p, e, s, m, args, below, meth, c, r, σe⟩ := Γ
  subst h
  intro ls H locs hl hP hS
  refine kk ls H locs ⟨hl.1, hl.2.1, fun q hq => hl.2.2 q ?_⟩ hP hS
  obtain ⟨a, ha, rfl⟩ := List.mem_map.mp hq
  exact List.mem_map.mpr ⟨a, fhpick_mem ha, rfl⟩
/-! ends -/
theorem fhW.iret {Y : fhY} {own : Nat} {cc : ByteArray} {nL : Nat} {Γ : fhX} (hΓ : fhOk Y own cc nL (some .int) Γ) {pc : Nat} {lv : List (Nat × Value)} {v : Int32} {σ : fhM} (hd : decode cc pc = .ok (.ireturn, 1)) (hr : fhRet Γ (some (.int v)) σ) : fhW Y Γ pc lv [.int v] σ := by
  obtain ⟨⟨l, D, b, cA, X⟩, d, p, e, s, m, args, below, meth, c, r, σe⟩ := Γ
  obtain ⟨hx, hb, hml, hown, hts, hK, hrt, hlk, hX, hXs⟩ := hΓ
  obtain ⟨rfl, rfl⟩ := hr
  intro ls H locs hl hP hS
  exact W.iret hx hb hrt (fun t ht hW => ⟨rfl, by rw [ht]; exact hP, hS.F ht⟩) hS.2.2 hd hlk
theorem fhW.zret {Y : fhY} {own : Nat} {cc : ByteArray} {nL : Nat} {Γ : fhX} (hΓ : fhOk Y own cc nL (some .boolean) Γ) {pc : Nat} {lv : List (Nat × Value)} {v : Bool} {σ : fhM} (hd : decode cc pc = .ok (.ireturn, 1)) (hr : fhRet Γ (some (.int (fhb v))) σ) : fhW Y Γ pc lv [.int (fhb v)] σ := by
  obtain ⟨⟨l, D, b, cA, X⟩, d, p, e, s, m, args, below, meth, c, r, σe⟩ := Γ
  obtain ⟨hx, hb, hml, hown, hts, hK, hrt, hlk, hX, hXs⟩ := hΓ
  obtain ⟨rfl, rfl⟩ := hr
  intro ls H locs hl hP hS
  exact W.zret (v := fhb v) hx hb hrt (by cases v <;> decide) (fun t ht hW => ⟨rfl, by rw [ht]; exact hP, hS.F ht⟩) hS.2.2 hd hlk
theorem fhW.lret {Y : fhY} {own : Nat} {cc : ByteArray} {nL : Nat} {Γ : fhX} (hΓ : fhOk Y own cc nL (some .long) Γ) {pc : Nat} {lv : List (Nat × Value)} {v : Int64} {σ : fhM} (hd : decode cc pc = .ok (.lreturn, 1)) (hr : fhRet Γ (some (.long v)) σ) : fhW Y Γ pc lv [.long v] σ := by
  obtain ⟨⟨l, D, b, cA, X⟩, d, p, e, s, m, args, below, meth, c, r, σe⟩ := Γ
  obtain ⟨hx, hb, hml, hown, hts, hK, hrt, hlk, hX, hXs⟩ := hΓ
  obtain ⟨rfl, rfl⟩ := hr
  intro ls H locs hl hP hS
  exact W.lret hx hb hrt (fun t ht hW => ⟨rfl, by rw [ht]; exact hP, hS.F ht⟩) hS.2.2 hd hlk
theorem fhW.vret {Y : fhY} {own : Nat} {cc : ByteArray} {nL : Nat} {Γ : fhX} (hΓ : fhOk Y own cc nL none Γ) {pc : Nat} {lv : List (Nat × Value)} {σ : fhM} (hd : decode cc pc = .ok (.return_, 1)) (hr : fhRet Γ none σ) : fhW Y Γ pc lv [] σ := by
  obtain ⟨⟨l, D, b, cA, X⟩, d, p, e, s, m, args, below, meth, c, r, σe⟩ := Γ
  obtain ⟨hx, hb, hml, hown, hts, hK, hrt, hlk, hX, hXs⟩ := hΓ
  obtain ⟨rfl, rfl⟩ := hr
  intro ls H locs hl hP hS
  exact W.vret hx hb hrt (fun t ht hW => ⟨rfl, by rw [ht]; exact hP, hS.F ht⟩) hS.2.2 hd hlk
theorem fhW.aret {Y : fhY} {own : Nat} {cc : ByteArray} {nL : Nat} {C : String} {Γ : fhX} (hΓ : fhOk Y own cc nL (some (.object C)) Γ) {pc : Nat} {lv : List (Nat × Value)} {v : Nat} {σ : fhM} (hd : decode cc pc = .ok (.areturn, 1)) (hr : fhRet Γ (some (.ref v)) σ) : fhW Y Γ pc lv [.ref v] σ := by
  obtain ⟨⟨l, D, b, cA, X⟩, d, p, e, s, m, args, below, meth, c, r, σe⟩ := Γ
  obtain ⟨hx, hb, hml, hown, hts, hK, hrt, hlk, hX, hXs⟩ := hΓ
  obtain ⟨rfl, rfl⟩ := hr
  intro ls H locs hl hP hS
  exact W.aret (v := .ref (b + v)) hx hb hrt (Or.inl ⟨_, rfl⟩) (Or.inr ⟨_, rfl⟩) (fun t ht hW => ⟨rfl, by rw [ht]; exact hP, hS.F ht⟩) hS.2.2 hd hlk
/-! calls -/
theorem fhgood : GoodIn fhtbl fhtbl := fun w hw => ⟨hw, good_of_word (List.mem_filter.mp hw).2⟩
/-- a method that can be called, of n parameters -/
def fhMk (mi : fhMI) (n : Nat) : Prop := match mi with
  | (y, cc, nL, ret) => Cond.code y cc nL ret ∈ fhtbl ∧ Cond.initialized y.cls ∈ fhtbl ∧ (y.cls ≠ "java/lang/invoke/MethodHandle" ∧ y.cls ≠ "java/lang/invoke/VarHandle") ∧ (parseMethodDescriptor y.desc).map (fun d => d.parameters.length) = some n ∧ nL ≤ 21
def fhMv (mi : fhMI) (n : Nat) : Prop := fhMk mi n ∧ Cond.instanceMethod mi.1 ∈ fhtbl ∧ Cond.selects mi.1.cls mi.1 mi.1 ∈ fhtbl
def fhMs (mi : fhMI) (n : Nat) : Prop := fhMk mi n ∧ Cond.static mi.1 ∈ fhtbl
theorem fhgo {Y : fhY} {D : va_G} {b : Nat} {cA : Nat → ClassId} {p : Program} {l : Launch} {e : Env} {R : Room} {s : State} {m : MethodId} {args : Array Value} {below : List Frame} {meth : Method} {c : Code} {H : Heap} {locs : List Loc} {Q : State → Prop} {pc : Nat} {ls : Array Slot} {rest st0 : List Value} {a : Array Value} {r : Option Value} {σ' : fhM}
    (hr : va_Run p l e R s m args below meth c H locs 0 0 0 0 (F0 m pc ls st0) rest (fhQ Y D b cA r σ' a) (fhA b Y.2.2)) (hS : va_S (fhA b Y.2.2) s.heap H locs)
    (kk : ∀ (H1 : Heap) (locs1 : List Loc), va_P D vwCl (fhws Y b cA σ') H1 → va_S (fhA b Y.2.2) s.heap H1 locs1 → W p l e R s m args below meth c H1 locs1 0 0 Q (F0 m (pc + 3) ls ((r.map (fhcv b)).toList ++ rest))) : W p l e R s m args below meth c H locs 0 0 Q (F0 m pc ls st0) := by
  intro T hT X
  obtain ⟨v, st₀, t, T', L, h0, X', hL, e1, e2, ⟨hv, hP1, hz, hk⟩, st⟩ := hr T hT X
  cases hv
  rw [h0] at hz hk
  obtain ⟨t2, a1, b1⟩ := kk T'.heap (locs ++ L) (by rw [e1]; exact hP1)
    ⟨Nat.le_trans hS.1 (by rw [e1]; exact hz), fun q h1 h2 => by rw [e1, hk q (Nat.lt_of_lt_of_le h1 hS.1) h2]; exact hS.2.1 q h1 h2, fun q hq => by
      rcases List.mem_append.mp hq with h | h
      · exact hS.2.2 q h
      · exact hL q h⟩ T' rfl X'
  exact ⟨t2, st t2 a1, b1⟩
theorem fhcs_sum (b : Nat) (st : List Value) : ((fhcs b st).map fun v => v.category).sum = fhcat st := by
  induction st with
  | nil => rfl
  | cons v vs ih =>
    show (fhcv b v).category + ((fhcs b vs).map fun v => v.category).sum = _
    rw [ih, fhcv_cat]
    rfl
theorem fhcallB {R : Room} {s : State} {args : Array Value} {own idx n d d' nL : Nat} {y : MethodName} {cc : ByteArray} {ret : Option FieldType} (hts : ∀ w ∈ fhtbl, w.before args s = true) (hM : fhMk (y, cc, nL, ret) n) (hl : Cond.methodLink (fhrx own) idx y ∈ fhtbl) (hR : R = fhrm d) (hd : d' + 1 ≤ d) :
    CallB R s args (fhrx own) idx y cc nL ret (.code y cc nL ret :: fhtbl) (fhrm d') 0 0 n := by
  obtain ⟨h1, h2, h3, h4, h5⟩ := hM
  subst hR
  refine callB_of n hts (fun w hw => ?_) rfl rfl rfl (hts _ h2) (hts _ hl) ⟨h3.1, h3.2, h4⟩ ⟨?_, ?_⟩
  · rcases List.mem_cons.mp hw with rfl | hw
    · exact fhgood _ h1
    · exact fhgood w hw
  · exact hd
  · show 8 + (nL + 11) + 40 * d' ≤ 40 * d
    omega
theorem fhW.callv {Y : fhY} {own : Nat} {cc : ByteArray} {nL : Nat} {ret : Option FieldType} {Γ : fhX} (hΓ : fhOk Y own cc nL ret Γ) {mi : fhMI} {n idx d' : Nat} (hM : fhMv mi n) (hlink : Cond.methodLink (fhrx own) idx mi.1 ∈ fhtbl) {pc t ci : Nat} {lv : List (Nat × Value)} {av st rest : List Value} {σ σ' : fhM} {r : Option Value}
    (hC : fhC Y (fhEn Γ) d' mi (.ref t :: av) σ r σ') (hd' : d' + 1 ≤ fhD Γ) (hd : decode cc pc = .ok (.invokevirtual idx, 3)) (hci : (vwCl[ci]?).map (fun q => q.1) = some mi.1.cls) (hg : (Nat.beq (Y.1 t).1 0 && (Nat.beq (Y.1 t).2.1 ci && (Nat.blt t Y.2.2 && true))) = true) (hst : av.reverse ++ .ref t :: rest = st) (hcat : fhcat rest ≤ 8) (hn : av.length = n)
    (kk : fhW Y Γ (pc + 3) lv (r.toList ++ rest) σ') : fhW Y Γ pc lv st σ := by
  obtain ⟨⟨l, D, b, cA, X⟩, d, p, e, s, m, args, below, meth, c, r0, σe⟩ := Γ
  obtain ⟨hx, hb, hml, hown, hts, hK, hrt, hlk, hX, hXs⟩ := hΓ
  obtain ⟨y, cy, ny, ry⟩ := mi
  obtain ⟨hMk, hMi, hMs⟩ := hM
  subst hst
  intro ls H locs hl hP hS
  obtain ⟨ha, -, -, -⟩ := fhobj_at (b := b) (cA := cA) (σ := σ) hg
  cases hq : vwCl[ci]? with
  | none => rw [hq] at hci; cases hci
  | some q =>
    rw [hq] at hci
    have hcls : q.1 = y.cls := Option.some.inj hci
    have hrc := va_recv hK hP hq ha
    rw [hcls] at hrc
    have e1 : fhcs b (av.reverse ++ .ref t :: rest) = (fhcs b av).reverse ++ .ref (b + t) :: fhcs b rest := by
      unfold fhcs
      rw [List.map_append, List.map_reverse]
      rfl
    rw [e1]
    refine fhgo (Y := Y) (D := D) (b := b) (cA := cA) (r := r) (σ' := σ') (rest := fhcs b rest) (va_runV (As := fhcs b av) (rest := fhcs b rest) (n := n) ⟨hx, hb, hml, hown, hts⟩ hC ⟨fhcallB hts hMk hlink rfl hd', hts _ hMi, hts _ hMs⟩
      ⟨fun a U g mk q => by obtain ⟨q0, qP, qK, qX, qs⟩ := q; exact ⟨q0, qP, va_K.moved (u := U) (U := U.calling g mk a) (Vm.Alike.refl U.vm) qK, qs U (U.calling g mk a) qX (State.WarmedH.refl U) (Nat.le_refl _) (fun _ _ _ => rfl), qs⟩, hrc, fun U hU hW => ⟨rfl, by rw [hU]; exact hP, va_K.moved hW.alike hK, hXs s U hX hW (by rw [hU]; exact hS.1) (by rw [hU]; exact hS.2.1), hXs⟩⟩
      rfl (by unfold fhcs; rw [List.length_map]; exact hn) (hl.1.trans hml) rfl ?_ hd ⟨Nat.zero_le _, Nat.zero_le _⟩) hS (fun H1 locs1 hP1 hS1 => ?_)
    · show 2 * 0 + _ ≤ 8
      rw [fhcs_sum]
      omega
    · have e2 : (r.map (fhcv b)).toList ++ fhcs b rest = fhcs b (r.toList ++ rest) := by cases r <;> rfl
      rw [e2]
      exact kk ls H1 locs1 hl hP1 hS1
theorem fhW.calls {Y : fhY} {own : Nat} {cc : ByteArray} {nL : Nat} {ret : Option FieldType} {Γ : fhX} (hΓ : fhOk Y own cc nL ret Γ) {mi : fhMI} {n idx d' : Nat} (hM : fhMs mi n) (hlink : Cond.methodLink (fhrx own) idx mi.1 ∈ fhtbl) {pc : Nat} {lv : List (Nat × Value)} {av st rest : List Value} {σ σ' : fhM} {r : Option Value}
    (hC : fhC Y (fhEn Γ) d' mi av σ r σ') (hd' : d' + 1 ≤ fhD Γ) (hd : decode cc pc = .ok (.invokestatic idx, 3)) (hst : av.reverse ++ rest = st) (hcat : fhcat rest ≤ 8) (hn : av.length = n)
    (kk : fhW Y Γ (pc + 3) lv (r.toList ++ rest) σ') : fhW Y Γ pc lv st σ := by
  obtain ⟨⟨l, D, b, cA, X⟩, d, p, e, s, m, args, below, meth, c, r0, σe⟩ := Γ
  obtain ⟨hx, hb, hml, hown, hts, hK, hrt, hlk, hX, hXs⟩ := hΓ
  obtain ⟨y, cy, ny, ry⟩ := mi
  obtain ⟨hMk, hMs⟩ := hM
  subst hst
  intro ls H locs hl hP hS
  have e1 : fhcs b (av.reverse ++ rest) = (fhcs b av).reverse ++ fhcs b rest := by
    unfold fhcs
    rw [List.map_append, List.map_reverse]
  rw [e1]
  refine fhgo (Y := Y) (D := D) (b := b) (cA := cA) (r := r) (σ' := σ') (rest := fhcs b rest) (va_runS (As := fhcs b av) (rest := fhcs b rest) (n := n) ⟨hx, hb, hml, hown, hts⟩ hC ⟨fhcallB hts hMk hlink rfl hd', hts _ hMs⟩
    ⟨fun a U g mk q => by obtain ⟨q0, qP, qK, qX, qs⟩ := q; exact ⟨q0, qP, va_K.moved (u := U) (U := U.calling g mk a) (Vm.Alike.refl U.vm) qK, qs U (U.calling g mk a) qX (State.WarmedH.refl U) (Nat.le_refl _) (fun _ _ _ => rfl), qs⟩, fun U hU hW => ⟨rfl, by rw [hU]; exact hP, va_K.moved hW.alike hK, hXs s U hX hW (by rw [hU]; exact hS.1) (by rw [hU]; exact hS.2.1), hXs⟩⟩
    rfl (by unfold fhcs; rw [List.length_map]; exact hn) (hl.1.trans hml) rfl ?_ hd ⟨Nat.zero_le _, Nat.zero_le _⟩) hS (fun H1 locs1 hP1 hS1 => ?_)
  · show 2 * 0 + _ ≤ 8
    rw [fhcs_sum]
    omega
  · have e2 : (r.map (fhcv b)).toList ++ fhcs b rest = fhcs b (r.toList ++ rest) := by cases r <;> rfl
    rw [e2]
    exact kk ls H1 locs1 hl hP1 hS1
