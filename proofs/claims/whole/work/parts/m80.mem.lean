/-! CONSTRUCTORS: a world as a memory -/
def gmI (o : Option gE) (j : Nat) : Int32 := match o with
  | some (0, _, _, fs, _) => (match fs[j]? with
    | some (.int v) => v
    | _ => 0)
  | some (_, _, _, _, ws) => gaf ws j
  | none => 0
def gmJ (o : Option gE) (j : Nat) : Int64 := match o with
  | some (0, _, _, fs, _) => (match fs[j]? with
    | some (.long v) => v
    | _ => 0)
  | _ => 0
def gmR (o : Option gE) (j : Nat) : Nat := match o with
  | some (0, _, _, fs, _) => (match fs[j]? with
    | some (.ref v) => v
    | _ => 0)
  | _ => 0
def gmem (w : List gE) : fhM := (fun t j => gmI w[t]? j, fun t j => gmJ w[t]? j, fun t j => gmR w[t]? j)
def gck1 (Y : fhY) (w : List gE) (t : Nat) : Bool := match w[t]? with
  | some (0, x, n, fs, _) => Nat.beq (Y.1 t).1 0 && (Nat.beq (Y.1 t).2.1 x && (Nat.beq (Y.1 t).2.2 n && gleq gveq ((List.range n).map (fun j => fhfv Y (gmem w) t x j)) fs))
  | some (1, x, n, _, _) => Nat.beq (Y.1 t).1 1 && (Nat.beq (Y.1 t).2.1 x && Nat.beq (Y.1 t).2.2 n)
  | _ => false
theorem gck1_ok {Y : fhY} {w : List gE} {t : Nat} (h : gck1 Y w t = true) (b : Nat) (cA : Nat → ClassId) : ∃ e, w[t]? = some e ∧ gent b cA e = fhent Y b cA (gmem w) t := by
  unfold gck1 at h
  split at h
  · rename_i x n fs ws hw
    obtain ⟨h1, h⟩ := fhand h
    obtain ⟨h2, h⟩ := fhand h
    obtain ⟨h3, h4⟩ := fhand h
    have h1 := Nat.eq_of_beq_eq_true h1
    have h2 := Nat.eq_of_beq_eq_true h2
    have h3 := Nat.eq_of_beq_eq_true h3
    have h4 := gleq_ok (fun _ _ h => gveq_ok h) h4
    refine ⟨_, hw, ?_⟩
    rw [fhent_obj h1, h2, h3]
    show Sum.inr (x, fs.map (fhcv b)) = _
    rw [← h4, List.map_map]
    rfl
  · rename_i x n fs ws hw
    obtain ⟨h1, h⟩ := fhand h
    obtain ⟨h2, h3⟩ := fhand h
    have h1 := Nat.eq_of_beq_eq_true h1
    have h2 := Nat.eq_of_beq_eq_true h2
    have h3 := Nat.eq_of_beq_eq_true h3
    refine ⟨_, hw, ?_⟩
    rw [fhent_arr h1, h2, h3]
    have e0 : gent b cA (1, x, n, fs, ws) = .inl (cA x, (n, bif Nat.beq x 3 then .inr (.inl (fun _ => 0)) else .inl (gaf ws))) := rfl
    rw [e0]
    have e1 : (gmem w).1 t = gaf ws := funext (fun j => by show gmI w[t]? j = _; rw [hw]; rfl)
    have e2 : (gmem w).2.1 t = fun _ => 0 := funext (fun j => by show gmJ w[t]? j = _; rw [hw]; rfl)
    by_cases hx : x = 3
    · subst hx
      have e3 : fharr (gmem w) t 3 = .inr (.inl ((gmem w).2.1 t)) := rfl
      rw [e3, e2]
      rfl
    · have hb : Nat.beq x 3 = false := by
        cases q : Nat.beq x 3 with
        | true => exact absurd (Nat.eq_of_beq_eq_true q) hx
        | false => rfl
      rw [hb]
      have e3 : fharr (gmem w) t x = .inl ((gmem w).1 t) := by
        unfold fharr
        split
        · exact absurd rfl hx
        · rfl
      rw [e3, e1]
      rfl
  · cases h
theorem gck_ok {Y : fhY} {w : List gE} (hl : w.length = Y.2.2) (h : (List.range Y.2.2).all (gck1 Y w) = true) (b : Nat) (cA : Nat → ClassId) : gws b cA w = fhws Y b cA (gmem w) := by
  apply List.ext_getElem?
  intro t
  by_cases ht : t < Y.2.2
  · obtain ⟨e, h1, h2⟩ := gck1_ok (List.all_eq_true.mp h t (List.mem_range.mpr ht)) b cA
    rw [gws_at h1, fhws_at ht, h2]
  · rw [List.getElem?_eq_none (by rw [gws_len]; omega), List.getElem?_eq_none (by unfold fhws; rw [List.length_map, List.length_range]; omega)]
set_option maxRecDepth 100000 in
theorem gF_ws (b : Nat) (cA : Nat → ClassId) : gws b cA gwF = fhws fhYF b cA (gmem gwF) := gck_ok (by decide +kernel) (by decide +kernel) b cA
set_option maxRecDepth 100000 in
theorem gM_ws (b : Nat) (cA : Nat → ClassId) : gws b cA gwM = fhws fhYM b cA (gmem gwM) := gck_ok (by decide +kernel) (by decide +kernel) b cA
/-- where a world's ints are not nought -/
def gzr (w : List gE) (t : Nat) : Bool := match w[t]? with
  | some (0, _, _, fs, _) => fs.all (fun v => match v with
    | .int x => decide (x = 0)
    | _ => true)
  | some (_, _, _, _, ws) => ws.isEmpty
  | none => true
theorem gzr_ok {w : List gE} {t : Nat} (h : gzr w t = true) (j : Nat) : (gmem w).1 t j = 0 := by
  show gmI w[t]? j = 0
  unfold gzr at h
  split at h
  · rename_i x n fs ws hw
    rw [hw]
    show (match fs[j]? with | some (.int v) => v | _ => 0) = 0
    split
    · rename_i v hv
      have := List.all_eq_true.mp h _ (List.mem_of_getElem? hv)
      exact of_decide_eq_true this
    · rfl
  · rename_i k x n fs ws hk hw
    rw [hw]
    cases ws with
    | nil =>
      cases k with
      | zero => exact (hk rfl).elim
      | succ k => rfl
    | cons q r => cases h
  · rename_i hw
    rw [hw]
    rfl
